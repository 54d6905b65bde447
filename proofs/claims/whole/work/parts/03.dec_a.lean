theorem dX0_isCell_0 : decode cX0_isCell 0 = .ok (.iload_n 0, 1) := by decide +kernel
theorem dX0_isCell_1 : decode cX0_isCell 1 = .ok (.ifCond .lt 13, 3) := by decide +kernel
theorem dX0_isCell_4 : decode cX0_isCell 4 = .ok (.iload_n 0, 1) := by decide +kernel
theorem dX0_isCell_5 : decode cX0_isCell 5 = .ok (.bipush 48, 2) := by decide +kernel
theorem dX0_isCell_7 : decode cX0_isCell 7 = .ok (.if_icmp .ge 7, 3) := by decide +kernel
theorem dX0_isCell_10 : decode cX0_isCell 10 = .ok (.iconst 1, 1) := by decide +kernel
theorem dX0_isCell_11 : decode cX0_isCell 11 = .ok (.goto 4, 3) := by decide +kernel
theorem dX0_isCell_14 : decode cX0_isCell 14 = .ok (.iconst 0, 1) := by decide +kernel
theorem dX0_isCell_15 : decode cX0_isCell 15 = .ok (.ireturn, 1) := by decide +kernel
theorem dX0_columnOf_0 : decode cX0_columnOf 0 = .ok (.iload_n 0, 1) := by decide +kernel
theorem dX0_columnOf_1 : decode cX0_columnOf 1 = .ok (.bipush 8, 2) := by decide +kernel
theorem dX0_columnOf_3 : decode cX0_columnOf 3 = .ok (.irem, 1) := by decide +kernel
theorem dX0_columnOf_4 : decode cX0_columnOf 4 = .ok (.ireturn, 1) := by decide +kernel
theorem dX0_rowOf_0 : decode cX0_rowOf 0 = .ok (.iload_n 0, 1) := by decide +kernel
theorem dX0_rowOf_1 : decode cX0_rowOf 1 = .ok (.bipush 8, 2) := by decide +kernel
theorem dX0_rowOf_3 : decode cX0_rowOf 3 = .ok (.idiv, 1) := by decide +kernel
theorem dX0_rowOf_4 : decode cX0_rowOf 4 = .ok (.ireturn, 1) := by decide +kernel
theorem dX0_columnOfSide_0 : decode cX0_columnOfSide 0 = .ok (.iload_n 0, 1) := by decide +kernel
theorem dX0_columnOfSide_1 : decode cX0_columnOfSide 1 = .ok (.ifCond .ne 7, 3) := by decide +kernel
theorem dX0_columnOfSide_4 : decode cX0_columnOfSide 4 = .ok (.iconst 0, 1) := by decide +kernel
theorem dX0_columnOfSide_5 : decode cX0_columnOfSide 5 = .ok (.goto 5, 3) := by decide +kernel
theorem dX0_columnOfSide_8 : decode cX0_columnOfSide 8 = .ok (.bipush 7, 2) := by decide +kernel
theorem dX0_columnOfSide_10 : decode cX0_columnOfSide 10 = .ok (.ireturn, 1) := by decide +kernel
theorem dX0_cellsOfSide_0 : decode cX0_cellsOfSide 0 = .ok (.iload_n 0, 1) := by decide +kernel
theorem dX0_cellsOfSide_1 : decode cX0_cellsOfSide 1 = .ok (.ifCond .ne 9, 3) := by decide +kernel
theorem dX0_cellsOfSide_4 : decode cX0_cellsOfSide 4 = .ok (.ldc2_w 9, 3) := by decide +kernel
theorem dX0_cellsOfSide_7 : decode cX0_cellsOfSide 7 = .ok (.goto 6, 3) := by decide +kernel
theorem dX0_cellsOfSide_10 : decode cX0_cellsOfSide 10 = .ok (.ldc2_w 11, 3) := by decide +kernel
theorem dX0_cellsOfSide_13 : decode cX0_cellsOfSide 13 = .ok (.lreturn, 1) := by decide +kernel
theorem dX0_has_0 : decode cX0_has 0 = .ok (.lload_n 0, 1) := by decide +kernel
theorem dX0_has_1 : decode cX0_has 1 = .ok (.iload_n 2, 1) := by decide +kernel
theorem dX0_has_2 : decode cX0_has 2 = .ok (.lushr, 1) := by decide +kernel
theorem dX0_has_3 : decode cX0_has 3 = .ok (.lconst 1, 1) := by decide +kernel
theorem dX0_has_4 : decode cX0_has 4 = .ok (.land, 1) := by decide +kernel
theorem dX0_has_5 : decode cX0_has 5 = .ok (.lconst 0, 1) := by decide +kernel
theorem dX0_has_6 : decode cX0_has 6 = .ok (.lcmp, 1) := by decide +kernel
theorem dX0_has_7 : decode cX0_has 7 = .ok (.ifCond .eq 7, 3) := by decide +kernel
theorem dX0_has_10 : decode cX0_has 10 = .ok (.iconst 1, 1) := by decide +kernel
theorem dX0_has_11 : decode cX0_has 11 = .ok (.goto 4, 3) := by decide +kernel
theorem dX0_has_14 : decode cX0_has 14 = .ok (.iconst 0, 1) := by decide +kernel
theorem dX0_has_15 : decode cX0_has 15 = .ok (.ireturn, 1) := by decide +kernel
set_option maxRecDepth 20000 in
theorem ggX0_apart_X0_rowOf : GoodIn wsX0_apart wsX0_rowOf := goodIn_r _ [8] (by decide +kernel) (by decide +kernel)
set_option maxRecDepth 20000 in
theorem gX0_apart_X0_rowOf : GoodIn wsX0_apart (va_wsS RX0 13 yX0_rowOf wsX0_rowOf) := goodIn_app (goodIn_of _ (by decide +kernel)) ggX0_apart_X0_rowOf
set_option maxRecDepth 20000 in
theorem ggX0_apart_X0_columnOf : GoodIn wsX0_apart wsX0_columnOf := goodIn_r _ [11] (by decide +kernel) (by decide +kernel)
set_option maxRecDepth 20000 in
theorem gX0_apart_X0_columnOf : GoodIn wsX0_apart (va_wsS RX0 22 yX0_columnOf wsX0_columnOf) := goodIn_app (goodIn_of _ (by decide +kernel)) ggX0_apart_X0_columnOf
theorem dX0_apart_0 : decode cX0_apart 0 = .ok (.iload_n 0, 1) := by decide +kernel
theorem dX0_apart_1 : decode cX0_apart 1 = .ok (.invokestatic 13, 3) := by decide +kernel
theorem dX0_apart_4 : decode cX0_apart 4 = .ok (.iload_n 1, 1) := by decide +kernel
theorem dX0_apart_5 : decode cX0_apart 5 = .ok (.invokestatic 13, 3) := by decide +kernel
theorem dX0_apart_8 : decode cX0_apart 8 = .ok (.isub, 1) := by decide +kernel
theorem dX0_apart_9 : decode cX0_apart 9 = .ok (.invokestatic 17, 3) := by decide +kernel
theorem dX0_apart_12 : decode cX0_apart 12 = .ok (.iload_n 0, 1) := by decide +kernel
theorem dX0_apart_13 : decode cX0_apart 13 = .ok (.invokestatic 22, 3) := by decide +kernel
theorem dX0_apart_16 : decode cX0_apart 16 = .ok (.iload_n 1, 1) := by decide +kernel
theorem dX0_apart_17 : decode cX0_apart 17 = .ok (.invokestatic 22, 3) := by decide +kernel
theorem dX0_apart_20 : decode cX0_apart 20 = .ok (.isub, 1) := by decide +kernel
theorem dX0_apart_21 : decode cX0_apart 21 = .ok (.invokestatic 17, 3) := by decide +kernel
theorem dX0_apart_24 : decode cX0_apart 24 = .ok (.iadd, 1) := by decide +kernel
theorem dX0_apart_25 : decode cX0_apart 25 = .ok (.ireturn, 1) := by decide +kernel
set_option maxRecDepth 20000 in
theorem ggX0_beside_X0_rowOf : GoodIn wsX0_beside wsX0_rowOf := goodIn_r _ [4] (by decide +kernel) (by decide +kernel)
set_option maxRecDepth 20000 in
theorem gX0_beside_X0_rowOf : GoodIn wsX0_beside (va_wsS RX0 13 yX0_rowOf wsX0_rowOf) := goodIn_app (goodIn_of _ (by decide +kernel)) ggX0_beside_X0_rowOf
set_option maxRecDepth 20000 in
theorem ggX0_beside_X0_columnOf : GoodIn wsX0_beside wsX0_columnOf := goodIn_r _ [7] (by decide +kernel) (by decide +kernel)
set_option maxRecDepth 20000 in
theorem gX0_beside_X0_columnOf : GoodIn wsX0_beside (va_wsS RX0 22 yX0_columnOf wsX0_columnOf) := goodIn_app (goodIn_of _ (by decide +kernel)) ggX0_beside_X0_columnOf
theorem dX0_beside_0 : decode cX0_beside 0 = .ok (.iload_n 1, 1) := by decide +kernel
theorem dX0_beside_1 : decode cX0_beside 1 = .ok (.tableswitch 96 1 4 #[31, 47, 64, 81], 31) := by decide +kernel
theorem dX0_beside_32 : decode cX0_beside 32 = .ok (.iload_n 0, 1) := by decide +kernel
theorem dX0_beside_33 : decode cX0_beside 33 = .ok (.invokestatic 13, 3) := by decide +kernel
theorem dX0_beside_36 : decode cX0_beside 36 = .ok (.ifCond .le 10, 3) := by decide +kernel
theorem dX0_beside_39 : decode cX0_beside 39 = .ok (.iload_n 0, 1) := by decide +kernel
theorem dX0_beside_40 : decode cX0_beside 40 = .ok (.bipush 8, 2) := by decide +kernel
theorem dX0_beside_42 : decode cX0_beside 42 = .ok (.isub, 1) := by decide +kernel
theorem dX0_beside_43 : decode cX0_beside 43 = .ok (.goto 4, 3) := by decide +kernel
theorem dX0_beside_46 : decode cX0_beside 46 = .ok (.iconst (-1), 1) := by decide +kernel
theorem dX0_beside_47 : decode cX0_beside 47 = .ok (.ireturn, 1) := by decide +kernel
theorem dX0_beside_48 : decode cX0_beside 48 = .ok (.iload_n 0, 1) := by decide +kernel
theorem dX0_beside_49 : decode cX0_beside 49 = .ok (.invokestatic 22, 3) := by decide +kernel
theorem dX0_beside_52 : decode cX0_beside 52 = .ok (.bipush 7, 2) := by decide +kernel
theorem dX0_beside_54 : decode cX0_beside 54 = .ok (.if_icmp .ge 9, 3) := by decide +kernel
theorem dX0_beside_57 : decode cX0_beside 57 = .ok (.iload_n 0, 1) := by decide +kernel
theorem dX0_beside_58 : decode cX0_beside 58 = .ok (.iconst 1, 1) := by decide +kernel
theorem dX0_beside_59 : decode cX0_beside 59 = .ok (.iadd, 1) := by decide +kernel
theorem dX0_beside_60 : decode cX0_beside 60 = .ok (.goto 4, 3) := by decide +kernel
theorem dX0_beside_63 : decode cX0_beside 63 = .ok (.iconst (-1), 1) := by decide +kernel
theorem dX0_beside_64 : decode cX0_beside 64 = .ok (.ireturn, 1) := by decide +kernel
theorem dX0_beside_65 : decode cX0_beside 65 = .ok (.iload_n 0, 1) := by decide +kernel
theorem dX0_beside_66 : decode cX0_beside 66 = .ok (.invokestatic 13, 3) := by decide +kernel
theorem dX0_beside_69 : decode cX0_beside 69 = .ok (.iconst 5, 1) := by decide +kernel
theorem dX0_beside_70 : decode cX0_beside 70 = .ok (.if_icmp .ge 10, 3) := by decide +kernel
theorem dX0_beside_73 : decode cX0_beside 73 = .ok (.iload_n 0, 1) := by decide +kernel
theorem dX0_beside_74 : decode cX0_beside 74 = .ok (.bipush 8, 2) := by decide +kernel
theorem dX0_beside_76 : decode cX0_beside 76 = .ok (.iadd, 1) := by decide +kernel
theorem dX0_beside_77 : decode cX0_beside 77 = .ok (.goto 4, 3) := by decide +kernel
theorem dX0_beside_80 : decode cX0_beside 80 = .ok (.iconst (-1), 1) := by decide +kernel
theorem dX0_beside_81 : decode cX0_beside 81 = .ok (.ireturn, 1) := by decide +kernel
theorem dX0_beside_82 : decode cX0_beside 82 = .ok (.iload_n 0, 1) := by decide +kernel
theorem dX0_beside_83 : decode cX0_beside 83 = .ok (.invokestatic 22, 3) := by decide +kernel
theorem dX0_beside_86 : decode cX0_beside 86 = .ok (.ifCond .le 9, 3) := by decide +kernel
theorem dX0_beside_89 : decode cX0_beside 89 = .ok (.iload_n 0, 1) := by decide +kernel
theorem dX0_beside_90 : decode cX0_beside 90 = .ok (.iconst 1, 1) := by decide +kernel
theorem dX0_beside_91 : decode cX0_beside 91 = .ok (.isub, 1) := by decide +kernel
theorem dX0_beside_92 : decode cX0_beside 92 = .ok (.goto 4, 3) := by decide +kernel
theorem dX0_beside_95 : decode cX0_beside 95 = .ok (.iconst (-1), 1) := by decide +kernel
theorem dX0_beside_96 : decode cX0_beside 96 = .ok (.ireturn, 1) := by decide +kernel
theorem dX0_beside_97 : decode cX0_beside 97 = .ok (.iconst (-1), 1) := by decide +kernel
theorem dX0_beside_98 : decode cX0_beside 98 = .ok (.ireturn, 1) := by decide +kernel
theorem dX0_allBeside_0 : decode cX0_allBeside 0 = .ok (.lload_n 0, 1) := by decide +kernel
theorem dX0_allBeside_1 : decode cX0_allBeside 1 = .ok (.ldc2_w 25, 3) := by decide +kernel
theorem dX0_allBeside_4 : decode cX0_allBeside 4 = .ok (.land, 1) := by decide +kernel
theorem dX0_allBeside_5 : decode cX0_allBeside 5 = .ok (.iconst 1, 1) := by decide +kernel
theorem dX0_allBeside_6 : decode cX0_allBeside 6 = .ok (.lshl, 1) := by decide +kernel
theorem dX0_allBeside_7 : decode cX0_allBeside 7 = .ok (.lload_n 0, 1) := by decide +kernel
theorem dX0_allBeside_8 : decode cX0_allBeside 8 = .ok (.ldc2_w 27, 3) := by decide +kernel
theorem dX0_allBeside_11 : decode cX0_allBeside 11 = .ok (.land, 1) := by decide +kernel
theorem dX0_allBeside_12 : decode cX0_allBeside 12 = .ok (.iconst 1, 1) := by decide +kernel
theorem dX0_allBeside_13 : decode cX0_allBeside 13 = .ok (.lushr, 1) := by decide +kernel
theorem dX0_allBeside_14 : decode cX0_allBeside 14 = .ok (.lor, 1) := by decide +kernel
theorem dX0_allBeside_15 : decode cX0_allBeside 15 = .ok (.lstore_n 2, 1) := by decide +kernel
theorem dX0_allBeside_16 : decode cX0_allBeside 16 = .ok (.lload_n 2, 1) := by decide +kernel
theorem dX0_allBeside_17 : decode cX0_allBeside 17 = .ok (.lload_n 0, 1) := by decide +kernel
theorem dX0_allBeside_18 : decode cX0_allBeside 18 = .ok (.bipush 8, 2) := by decide +kernel
theorem dX0_allBeside_20 : decode cX0_allBeside 20 = .ok (.lshl, 1) := by decide +kernel
theorem dX0_allBeside_21 : decode cX0_allBeside 21 = .ok (.lor, 1) := by decide +kernel
theorem dX0_allBeside_22 : decode cX0_allBeside 22 = .ok (.lload_n 0, 1) := by decide +kernel
theorem dX0_allBeside_23 : decode cX0_allBeside 23 = .ok (.bipush 8, 2) := by decide +kernel
theorem dX0_allBeside_25 : decode cX0_allBeside 25 = .ok (.lushr, 1) := by decide +kernel
theorem dX0_allBeside_26 : decode cX0_allBeside 26 = .ok (.lor, 1) := by decide +kernel
theorem dX0_allBeside_27 : decode cX0_allBeside 27 = .ok (.ldc2_w 29, 3) := by decide +kernel
theorem dX0_allBeside_30 : decode cX0_allBeside 30 = .ok (.land, 1) := by decide +kernel
theorem dX0_allBeside_31 : decode cX0_allBeside 31 = .ok (.lreturn, 1) := by decide +kernel
theorem dX1_init_0 : decode cX1_init 0 = .ok (.aload_n 0, 1) := by decide +kernel
theorem dX1_init_1 : decode cX1_init 1 = .ok (.invokespecial 1, 3) := by decide +kernel
theorem dX1_init_4 : decode cX1_init 4 = .ok (.aload_n 0, 1) := by decide +kernel
theorem dX1_init_5 : decode cX1_init 5 = .ok (.bipush 40, 2) := by decide +kernel
theorem dX1_init_7 : decode cX1_init 7 = .ok (.newarray .int, 2) := by decide +kernel
theorem dX1_init_9 : decode cX1_init 9 = .ok (.putfield 9, 3) := by decide +kernel
theorem dX1_init_12 : decode cX1_init 12 = .ok (.return_, 1) := by decide +kernel
theorem dX1_isMissing_0 : decode cX1_isMissing 0 = .ok (.aload_n 0, 1) := by decide +kernel
theorem dX1_isMissing_1 : decode cX1_isMissing 1 = .ok (.getfield 13, 3) := by decide +kernel
theorem dX1_isMissing_4 : decode cX1_isMissing 4 = .ok (.ifCond .ne 7, 3) := by decide +kernel
theorem dX1_isMissing_7 : decode cX1_isMissing 7 = .ok (.iconst 1, 1) := by decide +kernel
theorem dX1_isMissing_8 : decode cX1_isMissing 8 = .ok (.goto 4, 3) := by decide +kernel
theorem dX1_isMissing_11 : decode cX1_isMissing 11 = .ok (.iconst 0, 1) := by decide +kernel
theorem dX1_isMissing_12 : decode cX1_isMissing 12 = .ok (.ireturn, 1) := by decide +kernel
theorem dX1_begin_0 : decode cX1_begin 0 = .ok (.aload_n 0, 1) := by decide +kernel
theorem dX1_begin_1 : decode cX1_begin 1 = .ok (.iload_n 1, 1) := by decide +kernel
theorem dX1_begin_2 : decode cX1_begin 2 = .ok (.putfield 13, 3) := by decide +kernel
theorem dX1_begin_5 : decode cX1_begin 5 = .ok (.aload_n 0, 1) := by decide +kernel
theorem dX1_begin_6 : decode cX1_begin 6 = .ok (.iload_n 1, 1) := by decide +kernel
theorem dX1_begin_7 : decode cX1_begin 7 = .ok (.ifCond .ne 7, 3) := by decide +kernel
theorem dX1_begin_10 : decode cX1_begin 10 = .ok (.iconst 0, 1) := by decide +kernel
theorem dX1_begin_11 : decode cX1_begin 11 = .ok (.goto 4, 3) := by decide +kernel
theorem dX1_begin_14 : decode cX1_begin 14 = .ok (.iload_n 2, 1) := by decide +kernel
theorem dX1_begin_15 : decode cX1_begin 15 = .ok (.putfield 17, 3) := by decide +kernel
theorem dX1_begin_18 : decode cX1_begin 18 = .ok (.iconst 0, 1) := by decide +kernel
theorem dX1_begin_19 : decode cX1_begin 19 = .ok (.istore_n 3, 1) := by decide +kernel
theorem dX1_begin_20 : decode cX1_begin 20 = .ok (.iload_n 3, 1) := by decide +kernel
theorem dX1_begin_21 : decode cX1_begin 21 = .ok (.aload_n 0, 1) := by decide +kernel
theorem dX1_begin_22 : decode cX1_begin 22 = .ok (.getfield 17, 3) := by decide +kernel
theorem dX1_begin_25 : decode cX1_begin 25 = .ok (.if_icmp .ge 16, 3) := by decide +kernel
theorem dX1_begin_28 : decode cX1_begin 28 = .ok (.aload_n 0, 1) := by decide +kernel
theorem dX1_begin_29 : decode cX1_begin 29 = .ok (.getfield 9, 3) := by decide +kernel
theorem dX1_begin_32 : decode cX1_begin 32 = .ok (.iload_n 3, 1) := by decide +kernel
theorem dX1_begin_33 : decode cX1_begin 33 = .ok (.iconst 0, 1) := by decide +kernel
theorem dX1_begin_34 : decode cX1_begin 34 = .ok (.iastore, 1) := by decide +kernel
theorem dX1_begin_35 : decode cX1_begin 35 = .ok (.iinc 3 1, 3) := by decide +kernel
theorem dX1_begin_38 : decode cX1_begin 38 = .ok (.goto (-18), 3) := by decide +kernel
theorem dX1_begin_41 : decode cX1_begin 41 = .ok (.return_, 1) := by decide +kernel
theorem dX1_put_0 : decode cX1_put 0 = .ok (.aload_n 0, 1) := by decide +kernel
theorem dX1_put_1 : decode cX1_put 1 = .ok (.getfield 13, 3) := by decide +kernel
theorem dX1_put_4 : decode cX1_put 4 = .ok (.bipush 8, 2) := by decide +kernel
theorem dX1_put_6 : decode cX1_put 6 = .ok (.if_icmp .ne 14, 3) := by decide +kernel
theorem dX1_put_9 : decode cX1_put 9 = .ok (.aload_n 0, 1) := by decide +kernel
theorem dX1_put_10 : decode cX1_put 10 = .ok (.getfield 9, 3) := by decide +kernel
theorem dX1_put_13 : decode cX1_put 13 = .ok (.iload_n 1, 1) := by decide +kernel
theorem dX1_put_14 : decode cX1_put 14 = .ok (.iload_n 2, 1) := by decide +kernel
theorem dX1_put_15 : decode cX1_put 15 = .ok (.i2b, 1) := by decide +kernel
theorem dX1_put_16 : decode cX1_put 16 = .ok (.iastore, 1) := by decide +kernel
theorem dX1_put_17 : decode cX1_put 17 = .ok (.goto 30, 3) := by decide +kernel
theorem dX1_put_20 : decode cX1_put 20 = .ok (.aload_n 0, 1) := by decide +kernel
theorem dX1_put_21 : decode cX1_put 21 = .ok (.getfield 13, 3) := by decide +kernel
theorem dX1_put_24 : decode cX1_put 24 = .ok (.bipush 16, 2) := by decide +kernel
theorem dX1_put_26 : decode cX1_put 26 = .ok (.if_icmp .ne 14, 3) := by decide +kernel
theorem dX1_put_29 : decode cX1_put 29 = .ok (.aload_n 0, 1) := by decide +kernel
theorem dX1_put_30 : decode cX1_put 30 = .ok (.getfield 9, 3) := by decide +kernel
theorem dX1_put_33 : decode cX1_put 33 = .ok (.iload_n 1, 1) := by decide +kernel
theorem dX1_put_34 : decode cX1_put 34 = .ok (.iload_n 2, 1) := by decide +kernel
theorem dX1_put_35 : decode cX1_put 35 = .ok (.i2s, 1) := by decide +kernel
theorem dX1_put_36 : decode cX1_put 36 = .ok (.iastore, 1) := by decide +kernel
theorem dX1_put_37 : decode cX1_put 37 = .ok (.goto 10, 3) := by decide +kernel
theorem dX1_put_40 : decode cX1_put 40 = .ok (.aload_n 0, 1) := by decide +kernel
theorem dX1_put_41 : decode cX1_put 41 = .ok (.getfield 9, 3) := by decide +kernel
theorem dX1_put_44 : decode cX1_put 44 = .ok (.iload_n 1, 1) := by decide +kernel
theorem dX1_put_45 : decode cX1_put 45 = .ok (.iload_n 2, 1) := by decide +kernel
theorem dX1_put_46 : decode cX1_put 46 = .ok (.iastore, 1) := by decide +kernel
theorem dX1_put_47 : decode cX1_put 47 = .ok (.return_, 1) := by decide +kernel
theorem dX1_hasPart_0 : decode cX1_hasPart 0 = .ok (.iload_n 1, 1) := by decide +kernel
theorem dX1_hasPart_1 : decode cX1_hasPart 1 = .ok (.ifCond .lt 29, 3) := by decide +kernel
theorem dX1_hasPart_4 : decode cX1_hasPart 4 = .ok (.iload_n 2, 1) := by decide +kernel
theorem dX1_hasPart_5 : decode cX1_hasPart 5 = .ok (.ifCond .lt 25, 3) := by decide +kernel
theorem dX1_hasPart_8 : decode cX1_hasPart 8 = .ok (.iload_n 1, 1) := by decide +kernel
theorem dX1_hasPart_9 : decode cX1_hasPart 9 = .ok (.aload_n 0, 1) := by decide +kernel
theorem dX1_hasPart_10 : decode cX1_hasPart 10 = .ok (.getfield 17, 3) := by decide +kernel
theorem dX1_hasPart_13 : decode cX1_hasPart 13 = .ok (.if_icmp .gt 17, 3) := by decide +kernel
theorem dX1_hasPart_16 : decode cX1_hasPart 16 = .ok (.iload_n 2, 1) := by decide +kernel
theorem dX1_hasPart_17 : decode cX1_hasPart 17 = .ok (.aload_n 0, 1) := by decide +kernel
theorem dX1_hasPart_18 : decode cX1_hasPart 18 = .ok (.getfield 17, 3) := by decide +kernel
theorem dX1_hasPart_21 : decode cX1_hasPart 21 = .ok (.iload_n 1, 1) := by decide +kernel
theorem dX1_hasPart_22 : decode cX1_hasPart 22 = .ok (.isub, 1) := by decide +kernel
theorem dX1_hasPart_23 : decode cX1_hasPart 23 = .ok (.if_icmp .gt 7, 3) := by decide +kernel
theorem dX1_hasPart_26 : decode cX1_hasPart 26 = .ok (.iconst 1, 1) := by decide +kernel
theorem dX1_hasPart_27 : decode cX1_hasPart 27 = .ok (.goto 4, 3) := by decide +kernel
theorem dX1_hasPart_30 : decode cX1_hasPart 30 = .ok (.iconst 0, 1) := by decide +kernel
theorem dX1_hasPart_31 : decode cX1_hasPart 31 = .ok (.ireturn, 1) := by decide +kernel
theorem dX2_init_0 : decode cX2_init 0 = .ok (.aload_n 0, 1) := by decide +kernel
theorem dX2_init_1 : decode cX2_init 1 = .ok (.invokespecial 1, 3) := by decide +kernel
theorem dX2_init_4 : decode cX2_init 4 = .ok (.aload_n 0, 1) := by decide +kernel
theorem dX2_init_5 : decode cX2_init 5 = .ok (.bipush 120, 2) := by decide +kernel
theorem dX2_init_7 : decode cX2_init 7 = .ok (.newarray .int, 2) := by decide +kernel
theorem dX2_init_9 : decode cX2_init 9 = .ok (.putfield 9, 3) := by decide +kernel
theorem dX2_init_12 : decode cX2_init 12 = .ok (.aload_n 0, 1) := by decide +kernel
theorem dX2_init_13 : decode cX2_init 13 = .ok (.bipush 120, 2) := by decide +kernel
theorem dX2_init_15 : decode cX2_init 15 = .ok (.newarray .int, 2) := by decide +kernel
theorem dX2_init_17 : decode cX2_init 17 = .ok (.putfield 13, 3) := by decide +kernel
theorem dX2_init_20 : decode cX2_init 20 = .ok (.return_, 1) := by decide +kernel
set_option maxRecDepth 20000 in
theorem ggX2_append_X2_classOf : GoodIn wsX2_append wsX2_classOf := goodIn_r _ [7] (by decide +kernel) (by decide +kernel)
set_option maxRecDepth 20000 in
theorem gX2_append_X2_classOf : GoodIn wsX2_append (va_wsS RX2 20 yX2_classOf wsX2_classOf) := goodIn_app (goodIn_of _ (by decide +kernel)) ggX2_append_X2_classOf
theorem dX2_append_0 : decode cX2_append 0 = .ok (.aload_n 0, 1) := by decide +kernel
theorem dX2_append_1 : decode cX2_append 1 = .ok (.getfield 9, 3) := by decide +kernel
theorem dX2_append_4 : decode cX2_append 4 = .ok (.aload_n 0, 1) := by decide +kernel
theorem dX2_append_5 : decode cX2_append 5 = .ok (.getfield 16, 3) := by decide +kernel
theorem dX2_append_8 : decode cX2_append 8 = .ok (.iload_n 1, 1) := by decide +kernel
theorem dX2_append_9 : decode cX2_append 9 = .ok (.iastore, 1) := by decide +kernel
theorem dX2_append_10 : decode cX2_append 10 = .ok (.aload_n 0, 1) := by decide +kernel
theorem dX2_append_11 : decode cX2_append 11 = .ok (.getfield 13, 3) := by decide +kernel
theorem dX2_append_14 : decode cX2_append 14 = .ok (.aload_n 0, 1) := by decide +kernel
theorem dX2_append_15 : decode cX2_append 15 = .ok (.getfield 16, 3) := by decide +kernel
theorem dX2_append_18 : decode cX2_append 18 = .ok (.iload_n 1, 1) := by decide +kernel
theorem dX2_append_19 : decode cX2_append 19 = .ok (.invokestatic 20, 3) := by decide +kernel
theorem dX2_append_22 : decode cX2_append 22 = .ok (.iastore, 1) := by decide +kernel
theorem dX2_append_23 : decode cX2_append 23 = .ok (.aload_n 0, 1) := by decide +kernel
theorem dX2_append_24 : decode cX2_append 24 = .ok (.dup, 1) := by decide +kernel
theorem dX2_append_25 : decode cX2_append 25 = .ok (.getfield 16, 3) := by decide +kernel
theorem dX2_append_28 : decode cX2_append 28 = .ok (.iconst 1, 1) := by decide +kernel
theorem dX2_append_29 : decode cX2_append 29 = .ok (.iadd, 1) := by decide +kernel
theorem dX2_append_30 : decode cX2_append 30 = .ok (.putfield 16, 3) := by decide +kernel
theorem dX2_append_33 : decode cX2_append 33 = .ok (.return_, 1) := by decide +kernel
set_option maxRecDepth 20000 in
theorem ggX2_rewind_X2_readToken : GoodIn wsX2_rewind wsX2_readToken := goodIn_r _ [6, 1, 7, 8, 9, 10, 11, 12, 13, 14, 15, 16, 17] (by decide +kernel) (by decide +kernel)
set_option maxRecDepth 20000 in
theorem gX2_rewind_X2_readToken : GoodIn wsX2_rewind (wsV RX2 27 RX2 yX2_readToken wsX2_readToken) := goodIn_app (goodIn_of _ (by decide +kernel)) ggX2_rewind_X2_readToken
theorem dX2_rewind_0 : decode cX2_rewind 0 = .ok (.aload_n 0, 1) := by decide +kernel
theorem dX2_rewind_1 : decode cX2_rewind 1 = .ok (.iconst 0, 1) := by decide +kernel
theorem dX2_rewind_2 : decode cX2_rewind 2 = .ok (.putfield 24, 3) := by decide +kernel
theorem dX2_rewind_5 : decode cX2_rewind 5 = .ok (.aload_n 0, 1) := by decide +kernel
theorem dX2_rewind_6 : decode cX2_rewind 6 = .ok (.invokevirtual 27, 3) := by decide +kernel
theorem dX2_rewind_9 : decode cX2_rewind 9 = .ok (.return_, 1) := by decide +kernel
theorem dX2_readToken_0 : decode cX2_readToken 0 = .ok (.aload_n 0, 1) := by decide +kernel
theorem dX2_readToken_1 : decode cX2_readToken 1 = .ok (.aload_n 0, 1) := by decide +kernel
theorem dX2_readToken_2 : decode cX2_readToken 2 = .ok (.getfield 24, 3) := by decide +kernel
theorem dX2_readToken_5 : decode cX2_readToken 5 = .ok (.putfield 30, 3) := by decide +kernel
theorem dX2_readToken_8 : decode cX2_readToken 8 = .ok (.aload_n 0, 1) := by decide +kernel
theorem dX2_readToken_9 : decode cX2_readToken 9 = .ok (.getfield 30, 3) := by decide +kernel
theorem dX2_readToken_12 : decode cX2_readToken 12 = .ok (.aload_n 0, 1) := by decide +kernel
theorem dX2_readToken_13 : decode cX2_readToken 13 = .ok (.getfield 16, 3) := by decide +kernel
theorem dX2_readToken_16 : decode cX2_readToken 16 = .ok (.if_icmp .ge 30, 3) := by decide +kernel
theorem dX2_readToken_19 : decode cX2_readToken 19 = .ok (.aload_n 0, 1) := by decide +kernel
theorem dX2_readToken_20 : decode cX2_readToken 20 = .ok (.getfield 9, 3) := by decide +kernel
theorem dX2_readToken_23 : decode cX2_readToken 23 = .ok (.aload_n 0, 1) := by decide +kernel
theorem dX2_readToken_24 : decode cX2_readToken 24 = .ok (.getfield 30, 3) := by decide +kernel
theorem dX2_readToken_27 : decode cX2_readToken 27 = .ok (.iaload, 1) := by decide +kernel
theorem dX2_readToken_28 : decode cX2_readToken 28 = .ok (.bipush 32, 2) := by decide +kernel
theorem dX2_readToken_30 : decode cX2_readToken 30 = .ok (.if_icmp .ne 16, 3) := by decide +kernel
theorem dX2_readToken_33 : decode cX2_readToken 33 = .ok (.aload_n 0, 1) := by decide +kernel
theorem dX2_readToken_34 : decode cX2_readToken 34 = .ok (.dup, 1) := by decide +kernel
theorem dX2_readToken_35 : decode cX2_readToken 35 = .ok (.getfield 30, 3) := by decide +kernel
theorem dX2_readToken_38 : decode cX2_readToken 38 = .ok (.iconst 1, 1) := by decide +kernel
theorem dX2_readToken_39 : decode cX2_readToken 39 = .ok (.iadd, 1) := by decide +kernel
theorem dX2_readToken_40 : decode cX2_readToken 40 = .ok (.putfield 30, 3) := by decide +kernel
theorem dX2_readToken_43 : decode cX2_readToken 43 = .ok (.goto (-35), 3) := by decide +kernel
theorem dX2_readToken_46 : decode cX2_readToken 46 = .ok (.aload_n 0, 1) := by decide +kernel
theorem dX2_readToken_47 : decode cX2_readToken 47 = .ok (.aload_n 0, 1) := by decide +kernel
theorem dX2_readToken_48 : decode cX2_readToken 48 = .ok (.getfield 30, 3) := by decide +kernel
theorem dX2_readToken_51 : decode cX2_readToken 51 = .ok (.aload_n 0, 1) := by decide +kernel
theorem dX2_readToken_52 : decode cX2_readToken 52 = .ok (.getfield 16, 3) := by decide +kernel
theorem dX2_readToken_55 : decode cX2_readToken 55 = .ok (.if_icmp .ge 15, 3) := by decide +kernel
theorem dX2_readToken_58 : decode cX2_readToken 58 = .ok (.aload_n 0, 1) := by decide +kernel
theorem dX2_readToken_59 : decode cX2_readToken 59 = .ok (.getfield 13, 3) := by decide +kernel
theorem dX2_readToken_62 : decode cX2_readToken 62 = .ok (.aload_n 0, 1) := by decide +kernel
theorem dX2_readToken_63 : decode cX2_readToken 63 = .ok (.getfield 30, 3) := by decide +kernel
theorem dX2_readToken_66 : decode cX2_readToken 66 = .ok (.iaload, 1) := by decide +kernel
theorem dX2_readToken_67 : decode cX2_readToken 67 = .ok (.goto 4, 3) := by decide +kernel
theorem dX2_readToken_70 : decode cX2_readToken 70 = .ok (.iconst 0, 1) := by decide +kernel
theorem dX2_readToken_71 : decode cX2_readToken 71 = .ok (.putfield 33, 3) := by decide +kernel
theorem dX2_readToken_74 : decode cX2_readToken 74 = .ok (.aload_n 0, 1) := by decide +kernel
theorem dX2_readToken_75 : decode cX2_readToken 75 = .ok (.aload_n 0, 1) := by decide +kernel
theorem dX2_readToken_76 : decode cX2_readToken 76 = .ok (.getfield 30, 3) := by decide +kernel
theorem dX2_readToken_79 : decode cX2_readToken 79 = .ok (.aload_n 0, 1) := by decide +kernel
theorem dX2_readToken_80 : decode cX2_readToken 80 = .ok (.getfield 16, 3) := by decide +kernel
theorem dX2_readToken_83 : decode cX2_readToken 83 = .ok (.if_icmp .ge 12, 3) := by decide +kernel
theorem dX2_readToken_86 : decode cX2_readToken 86 = .ok (.aload_n 0, 1) := by decide +kernel
theorem dX2_readToken_87 : decode cX2_readToken 87 = .ok (.getfield 30, 3) := by decide +kernel
theorem dX2_readToken_90 : decode cX2_readToken 90 = .ok (.iconst 1, 1) := by decide +kernel
theorem dX2_readToken_91 : decode cX2_readToken 91 = .ok (.iadd, 1) := by decide +kernel
theorem dX2_readToken_92 : decode cX2_readToken 92 = .ok (.goto 7, 3) := by decide +kernel
theorem dX2_readToken_95 : decode cX2_readToken 95 = .ok (.aload_n 0, 1) := by decide +kernel
theorem dX2_readToken_96 : decode cX2_readToken 96 = .ok (.getfield 16, 3) := by decide +kernel
theorem dX2_readToken_99 : decode cX2_readToken 99 = .ok (.putfield 24, 3) := by decide +kernel
theorem dX2_readToken_102 : decode cX2_readToken 102 = .ok (.aload_n 0, 1) := by decide +kernel
theorem dX2_readToken_103 : decode cX2_readToken 103 = .ok (.getfield 33, 3) := by decide +kernel
theorem dX2_readToken_106 : decode cX2_readToken 106 = .ok (.iconst 1, 1) := by decide +kernel
theorem dX2_readToken_107 : decode cX2_readToken 107 = .ok (.if_icmp .eq 11, 3) := by decide +kernel
theorem dX2_readToken_110 : decode cX2_readToken 110 = .ok (.aload_n 0, 1) := by decide +kernel
theorem dX2_readToken_111 : decode cX2_readToken 111 = .ok (.getfield 33, 3) := by decide +kernel
theorem dX2_readToken_114 : decode cX2_readToken 114 = .ok (.iconst 2, 1) := by decide +kernel
theorem dX2_readToken_115 : decode cX2_readToken 115 = .ok (.if_icmp .ne 43, 3) := by decide +kernel
theorem dX2_readToken_118 : decode cX2_readToken 118 = .ok (.aload_n 0, 1) := by decide +kernel
theorem dX2_readToken_119 : decode cX2_readToken 119 = .ok (.getfield 24, 3) := by decide +kernel
theorem dX2_readToken_122 : decode cX2_readToken 122 = .ok (.aload_n 0, 1) := by decide +kernel
theorem dX2_readToken_123 : decode cX2_readToken 123 = .ok (.getfield 16, 3) := by decide +kernel
theorem dX2_readToken_126 : decode cX2_readToken 126 = .ok (.if_icmp .ge 32, 3) := by decide +kernel
theorem dX2_readToken_129 : decode cX2_readToken 129 = .ok (.aload_n 0, 1) := by decide +kernel
theorem dX2_readToken_130 : decode cX2_readToken 130 = .ok (.getfield 13, 3) := by decide +kernel
theorem dX2_readToken_133 : decode cX2_readToken 133 = .ok (.aload_n 0, 1) := by decide +kernel
theorem dX2_readToken_134 : decode cX2_readToken 134 = .ok (.getfield 24, 3) := by decide +kernel
theorem dX2_readToken_137 : decode cX2_readToken 137 = .ok (.iaload, 1) := by decide +kernel
theorem dX2_readToken_138 : decode cX2_readToken 138 = .ok (.aload_n 0, 1) := by decide +kernel
theorem dX2_readToken_139 : decode cX2_readToken 139 = .ok (.getfield 33, 3) := by decide +kernel
theorem dX2_readToken_142 : decode cX2_readToken 142 = .ok (.if_icmp .ne 16, 3) := by decide +kernel
theorem dX2_readToken_145 : decode cX2_readToken 145 = .ok (.aload_n 0, 1) := by decide +kernel
theorem dX2_readToken_146 : decode cX2_readToken 146 = .ok (.dup, 1) := by decide +kernel
theorem dX2_readToken_147 : decode cX2_readToken 147 = .ok (.getfield 24, 3) := by decide +kernel
theorem dX2_readToken_150 : decode cX2_readToken 150 = .ok (.iconst 1, 1) := by decide +kernel
theorem dX2_readToken_151 : decode cX2_readToken 151 = .ok (.iadd, 1) := by decide +kernel
theorem dX2_readToken_152 : decode cX2_readToken 152 = .ok (.putfield 24, 3) := by decide +kernel
theorem dX2_readToken_155 : decode cX2_readToken 155 = .ok (.goto (-37), 3) := by decide +kernel
theorem dX2_readToken_158 : decode cX2_readToken 158 = .ok (.return_, 1) := by decide +kernel
theorem dX2_classOf_0 : decode cX2_classOf 0 = .ok (.iload_n 0, 1) := by decide +kernel
theorem dX2_classOf_1 : decode cX2_classOf 1 = .ok (.bipush 97, 2) := by decide +kernel
theorem dX2_classOf_3 : decode cX2_classOf 3 = .ok (.if_icmp .lt 11, 3) := by decide +kernel
theorem dX2_classOf_6 : decode cX2_classOf 6 = .ok (.iload_n 0, 1) := by decide +kernel
theorem dX2_classOf_7 : decode cX2_classOf 7 = .ok (.bipush 122, 2) := by decide +kernel
theorem dX2_classOf_9 : decode cX2_classOf 9 = .ok (.if_icmp .gt 5, 3) := by decide +kernel
theorem dX2_classOf_12 : decode cX2_classOf 12 = .ok (.iconst 1, 1) := by decide +kernel
theorem dX2_classOf_13 : decode cX2_classOf 13 = .ok (.ireturn, 1) := by decide +kernel
theorem dX2_classOf_14 : decode cX2_classOf 14 = .ok (.iload_n 0, 1) := by decide +kernel
theorem dX2_classOf_15 : decode cX2_classOf 15 = .ok (.bipush 48, 2) := by decide +kernel
theorem dX2_classOf_17 : decode cX2_classOf 17 = .ok (.if_icmp .lt 11, 3) := by decide +kernel
theorem dX2_classOf_20 : decode cX2_classOf 20 = .ok (.iload_n 0, 1) := by decide +kernel
theorem dX2_classOf_21 : decode cX2_classOf 21 = .ok (.bipush 57, 2) := by decide +kernel
theorem dX2_classOf_23 : decode cX2_classOf 23 = .ok (.if_icmp .gt 5, 3) := by decide +kernel
theorem dX2_classOf_26 : decode cX2_classOf 26 = .ok (.iconst 2, 1) := by decide +kernel
theorem dX2_classOf_27 : decode cX2_classOf 27 = .ok (.ireturn, 1) := by decide +kernel
theorem dX2_classOf_28 : decode cX2_classOf 28 = .ok (.iload_n 0, 1) := by decide +kernel
theorem dX2_classOf_29 : decode cX2_classOf 29 = .ok (.bipush 59, 2) := by decide +kernel
theorem dX2_classOf_31 : decode cX2_classOf 31 = .ok (.if_icmp .ne 7, 3) := by decide +kernel
theorem dX2_classOf_34 : decode cX2_classOf 34 = .ok (.iconst 3, 1) := by decide +kernel
theorem dX2_classOf_35 : decode cX2_classOf 35 = .ok (.goto 4, 3) := by decide +kernel
theorem dX2_classOf_38 : decode cX2_classOf 38 = .ok (.iconst 4, 1) := by decide +kernel
theorem dX2_classOf_39 : decode cX2_classOf 39 = .ok (.ireturn, 1) := by decide +kernel
set_option maxRecDepth 20000 in
theorem ggX2_isWord_J0_length_8abf5 : GoodIn wsX2_isWord wsJ0_length_8abf5 := goodIn_r _ [9, 10, 11, 12, 13, 8, 14, 15, 16] (by decide +kernel) (by decide +kernel)
set_option maxRecDepth 20000 in
theorem gX2_isWord_J0_length_8abf5 : GoodIn wsX2_isWord (wsV RX2 36 RJ0 yJ0_length_8abf5 wsJ0_length_8abf5) := goodIn_app (goodIn_of _ (by decide +kernel)) ggX2_isWord_J0_length_8abf5
set_option maxRecDepth 20000 in
theorem ggX2_isWord_J0_charAt_5068e : GoodIn wsX2_isWord wsJ0_charAt_5068e := goodIn_r _ [20, 10, 21, 22, 23, 8, 24, 15, 16, 25, 26, 27, 28, 29, 30, 31, 32, 33, 34, 35, 36, 37, 38, 39, 40, 41, 42, 43, 44, 45, 46, 47, 48, 49, 50, 51, 52, 53] (by decide +kernel) (by decide +kernel)
set_option maxRecDepth 20000 in
theorem gX2_isWord_J0_charAt_5068e : GoodIn wsX2_isWord (wsV RX2 41 RJ0 yJ0_charAt_5068e wsJ0_charAt_5068e) := goodIn_app (goodIn_of _ (by decide +kernel)) ggX2_isWord_J0_charAt_5068e
theorem dX2_isWord_0 : decode cX2_isWord 0 = .ok (.aload_n 0, 1) := by decide +kernel
theorem dX2_isWord_1 : decode cX2_isWord 1 = .ok (.getfield 33, 3) := by decide +kernel
theorem dX2_isWord_4 : decode cX2_isWord 4 = .ok (.iconst 1, 1) := by decide +kernel
theorem dX2_isWord_5 : decode cX2_isWord 5 = .ok (.if_icmp .ne 19, 3) := by decide +kernel
theorem dX2_isWord_8 : decode cX2_isWord 8 = .ok (.aload_n 0, 1) := by decide +kernel
theorem dX2_isWord_9 : decode cX2_isWord 9 = .ok (.getfield 24, 3) := by decide +kernel
theorem dX2_isWord_12 : decode cX2_isWord 12 = .ok (.aload_n 0, 1) := by decide +kernel
theorem dX2_isWord_13 : decode cX2_isWord 13 = .ok (.getfield 30, 3) := by decide +kernel
theorem dX2_isWord_16 : decode cX2_isWord 16 = .ok (.isub, 1) := by decide +kernel
theorem dX2_isWord_17 : decode cX2_isWord 17 = .ok (.aload_n 1, 1) := by decide +kernel
theorem dX2_isWord_18 : decode cX2_isWord 18 = .ok (.invokevirtual 36, 3) := by decide +kernel
theorem dX2_isWord_21 : decode cX2_isWord 21 = .ok (.if_icmp .eq 5, 3) := by decide +kernel
theorem dX2_isWord_24 : decode cX2_isWord 24 = .ok (.iconst 0, 1) := by decide +kernel
theorem dX2_isWord_25 : decode cX2_isWord 25 = .ok (.ireturn, 1) := by decide +kernel
theorem dX2_isWord_26 : decode cX2_isWord 26 = .ok (.iconst 0, 1) := by decide +kernel
theorem dX2_isWord_27 : decode cX2_isWord 27 = .ok (.istore_n 2, 1) := by decide +kernel
theorem dX2_isWord_28 : decode cX2_isWord 28 = .ok (.iload_n 2, 1) := by decide +kernel
theorem dX2_isWord_29 : decode cX2_isWord 29 = .ok (.aload_n 1, 1) := by decide +kernel
theorem dX2_isWord_30 : decode cX2_isWord 30 = .ok (.invokevirtual 36, 3) := by decide +kernel
theorem dX2_isWord_33 : decode cX2_isWord 33 = .ok (.if_icmp .ge 30, 3) := by decide +kernel
theorem dX2_isWord_36 : decode cX2_isWord 36 = .ok (.aload_n 0, 1) := by decide +kernel
theorem dX2_isWord_37 : decode cX2_isWord 37 = .ok (.getfield 9, 3) := by decide +kernel
theorem dX2_isWord_40 : decode cX2_isWord 40 = .ok (.aload_n 0, 1) := by decide +kernel
theorem dX2_isWord_41 : decode cX2_isWord 41 = .ok (.getfield 30, 3) := by decide +kernel
theorem dX2_isWord_44 : decode cX2_isWord 44 = .ok (.iload_n 2, 1) := by decide +kernel
theorem dX2_isWord_45 : decode cX2_isWord 45 = .ok (.iadd, 1) := by decide +kernel
theorem dX2_isWord_46 : decode cX2_isWord 46 = .ok (.iaload, 1) := by decide +kernel
theorem dX2_isWord_47 : decode cX2_isWord 47 = .ok (.aload_n 1, 1) := by decide +kernel
theorem dX2_isWord_48 : decode cX2_isWord 48 = .ok (.iload_n 2, 1) := by decide +kernel
theorem dX2_isWord_49 : decode cX2_isWord 49 = .ok (.invokevirtual 41, 3) := by decide +kernel
theorem dX2_isWord_52 : decode cX2_isWord 52 = .ok (.if_icmp .eq 5, 3) := by decide +kernel
theorem dX2_isWord_55 : decode cX2_isWord 55 = .ok (.iconst 0, 1) := by decide +kernel
theorem dX2_isWord_56 : decode cX2_isWord 56 = .ok (.ireturn, 1) := by decide +kernel
theorem dX2_isWord_57 : decode cX2_isWord 57 = .ok (.iinc 2 1, 3) := by decide +kernel
theorem dX2_isWord_60 : decode cX2_isWord 60 = .ok (.goto (-32), 3) := by decide +kernel
theorem dX2_isWord_63 : decode cX2_isWord 63 = .ok (.iconst 1, 1) := by decide +kernel
theorem dX2_isWord_64 : decode cX2_isWord 64 = .ok (.ireturn, 1) := by decide +kernel
theorem dX2_number_0 : decode cX2_number 0 = .ok (.iconst 0, 1) := by decide +kernel
theorem dX2_number_1 : decode cX2_number 1 = .ok (.istore_n 1, 1) := by decide +kernel
theorem dX2_number_2 : decode cX2_number 2 = .ok (.aload_n 0, 1) := by decide +kernel
theorem dX2_number_3 : decode cX2_number 3 = .ok (.getfield 30, 3) := by decide +kernel
theorem dX2_number_6 : decode cX2_number 6 = .ok (.istore_n 2, 1) := by decide +kernel
theorem dX2_number_7 : decode cX2_number 7 = .ok (.iload_n 2, 1) := by decide +kernel
theorem dX2_number_8 : decode cX2_number 8 = .ok (.aload_n 0, 1) := by decide +kernel
theorem dX2_number_9 : decode cX2_number 9 = .ok (.getfield 24, 3) := by decide +kernel
theorem dX2_number_12 : decode cX2_number 12 = .ok (.if_icmp .ge 31, 3) := by decide +kernel
theorem dX2_number_15 : decode cX2_number 15 = .ok (.iload_n 1, 1) := by decide +kernel
theorem dX2_number_16 : decode cX2_number 16 = .ok (.sipush 999, 3) := by decide +kernel
theorem dX2_number_19 : decode cX2_number 19 = .ok (.if_icmp .gt 24, 3) := by decide +kernel
theorem dX2_number_22 : decode cX2_number 22 = .ok (.iload_n 1, 1) := by decide +kernel
theorem dX2_number_23 : decode cX2_number 23 = .ok (.bipush 10, 2) := by decide +kernel
theorem dX2_number_25 : decode cX2_number 25 = .ok (.imul, 1) := by decide +kernel
theorem dX2_number_26 : decode cX2_number 26 = .ok (.aload_n 0, 1) := by decide +kernel
theorem dX2_number_27 : decode cX2_number 27 = .ok (.getfield 9, 3) := by decide +kernel
theorem dX2_number_30 : decode cX2_number 30 = .ok (.iload_n 2, 1) := by decide +kernel
theorem dX2_number_31 : decode cX2_number 31 = .ok (.iaload, 1) := by decide +kernel
theorem dX2_number_32 : decode cX2_number 32 = .ok (.bipush 48, 2) := by decide +kernel
theorem dX2_number_34 : decode cX2_number 34 = .ok (.isub, 1) := by decide +kernel
theorem dX2_number_35 : decode cX2_number 35 = .ok (.iadd, 1) := by decide +kernel
theorem dX2_number_36 : decode cX2_number 36 = .ok (.istore_n 1, 1) := by decide +kernel
theorem dX2_number_37 : decode cX2_number 37 = .ok (.iinc 2 1, 3) := by decide +kernel
theorem dX2_number_40 : decode cX2_number 40 = .ok (.goto (-33), 3) := by decide +kernel
theorem dX2_number_43 : decode cX2_number 43 = .ok (.iload_n 1, 1) := by decide +kernel
theorem dX2_number_44 : decode cX2_number 44 = .ok (.ireturn, 1) := by decide +kernel
theorem dX3_init_0 : decode cX3_init 0 = .ok (.aload_n 0, 1) := by decide +kernel
theorem dX3_init_1 : decode cX3_init 1 = .ok (.invokespecial 3, 3) := by decide +kernel
theorem dX3_init_4 : decode cX3_init 4 = .ok (.aload_n 0, 1) := by decide +kernel
theorem dX3_init_5 : decode cX3_init 5 = .ok (.aload_n 1, 1) := by decide +kernel
theorem dX3_init_6 : decode cX3_init 6 = .ok (.putfield 9, 3) := by decide +kernel
theorem dX3_init_9 : decode cX3_init 9 = .ok (.aload_n 0, 1) := by decide +kernel
theorem dX3_init_10 : decode cX3_init 10 = .ok (.aload_n 2, 1) := by decide +kernel
theorem dX3_init_11 : decode cX3_init 11 = .ok (.putfield 15, 3) := by decide +kernel
theorem dX3_init_14 : decode cX3_init 14 = .ok (.return_, 1) := by decide +kernel
set_option maxRecDepth 20000 in
theorem ggX3_read_X2_rewind : GoodIn wsX3_read wsX2_rewind := goodIn_r _ [8, 9, 10, 11, 12, 7, 13, 14, 15, 16, 17, 18, 141, 142, 143, 144, 145, 146] (by decide +kernel) (by decide +kernel)
set_option maxRecDepth 20000 in
theorem gX3_read_X2_rewind : GoodIn wsX3_read (wsV RX3 19 RX2 yX2_rewind wsX2_rewind) := goodIn_app (goodIn_of _ (by decide +kernel)) ggX3_read_X2_rewind
set_option maxRecDepth 20000 in
theorem ggX3_read_X3_readItem : GoodIn wsX3_read wsX3_readItem := goodIn_r _ [23, 24, 25, 26, 27, 28, 29, 22, 30, 1, 31, 32, 33, 34, 35, 36, 7, 37, 18, 9, 14, 16, 38, 39, 40, 41, 42, 43, 44, 45, 46, 47, 48, 49, 50, 51, 52, 53, 54, 55, 56, 57, 58, 59, 60, 61, 62, 63, 64, 65, 66, 67, 68, 69, 70, 71, 72, 73, 74, 75, 76, 77, 78, 79, 80, 81, 82, 83, 84, 85, 86, 87, 88, 89, 90, 91, 92, 93, 94, 95, 11, 12, 13, 15, 17, 96, 97, 98, 99, 100, 101, 102, 103, 104, 105, 106, 107, 108, 109, 110, 111, 112, 113, 114, 115, 116, 117, 118, 119, 2, 120, 121, 122, 123, 124, 125, 126, 127, 128, 129, 130, 131, 132, 133, 134, 135, 136, 137, 138, 139, 140, 147, 148, 149, 150, 151, 152, 153, 154, 155, 156, 157, 158, 159, 160, 141, 142, 143, 144, 145, 146] (by decide +kernel) (by decide +kernel)
set_option maxRecDepth 20000 in
theorem gX3_read_X3_readItem : GoodIn wsX3_read (wsV RX3 24 RX3 yX3_readItem wsX3_readItem) := goodIn_app (goodIn_of _ (by decide +kernel)) ggX3_read_X3_readItem
set_option maxRecDepth 20000 in
theorem ggX3_read_X2_readToken : GoodIn wsX3_read wsX2_readToken := goodIn_r _ [13, 9, 14, 15, 16, 17, 18, 141, 142, 143, 144, 145, 146] (by decide +kernel) (by decide +kernel)
set_option maxRecDepth 20000 in
theorem gX3_read_X2_readToken : GoodIn wsX3_read (wsV RX3 32 RX2 yX2_readToken wsX2_readToken) := goodIn_app (goodIn_of _ (by decide +kernel)) ggX3_read_X2_readToken
theorem dX3_read_0 : decode cX3_read 0 = .ok (.aload_n 0, 1) := by decide +kernel
theorem dX3_read_1 : decode cX3_read 1 = .ok (.getfield 9, 3) := by decide +kernel
theorem dX3_read_4 : decode cX3_read 4 = .ok (.invokevirtual 19, 3) := by decide +kernel
theorem dX3_read_7 : decode cX3_read 7 = .ok (.iconst 1, 1) := by decide +kernel
theorem dX3_read_8 : decode cX3_read 8 = .ok (.istore_n 1, 1) := by decide +kernel
theorem dX3_read_9 : decode cX3_read 9 = .ok (.iload_n 1, 1) := by decide +kernel
theorem dX3_read_10 : decode cX3_read 10 = .ok (.bipush 120, 2) := by decide +kernel
theorem dX3_read_12 : decode cX3_read 12 = .ok (.if_icmp .gt 52, 3) := by decide +kernel
theorem dX3_read_15 : decode cX3_read 15 = .ok (.aload_n 0, 1) := by decide +kernel
theorem dX3_read_16 : decode cX3_read 16 = .ok (.invokevirtual 24, 3) := by decide +kernel
theorem dX3_read_19 : decode cX3_read 19 = .ok (.ifCond .ne 6, 3) := by decide +kernel
theorem dX3_read_22 : decode cX3_read 22 = .ok (.goto 42, 3) := by decide +kernel
theorem dX3_read_25 : decode cX3_read 25 = .ok (.aload_n 0, 1) := by decide +kernel
theorem dX3_read_26 : decode cX3_read 26 = .ok (.getfield 9, 3) := by decide +kernel
theorem dX3_read_29 : decode cX3_read 29 = .ok (.getfield 28, 3) := by decide +kernel
theorem dX3_read_32 : decode cX3_read 32 = .ok (.ifCond .ne 5, 3) := by decide +kernel
theorem dX3_read_35 : decode cX3_read 35 = .ok (.iload_n 1, 1) := by decide +kernel
theorem dX3_read_36 : decode cX3_read 36 = .ok (.ireturn, 1) := by decide +kernel
theorem dX3_read_37 : decode cX3_read 37 = .ok (.aload_n 0, 1) := by decide +kernel
theorem dX3_read_38 : decode cX3_read 38 = .ok (.getfield 9, 3) := by decide +kernel
theorem dX3_read_41 : decode cX3_read 41 = .ok (.getfield 28, 3) := by decide +kernel
theorem dX3_read_44 : decode cX3_read 44 = .ok (.iconst 3, 1) := by decide +kernel
theorem dX3_read_45 : decode cX3_read 45 = .ok (.if_icmp .eq 6, 3) := by decide +kernel
theorem dX3_read_48 : decode cX3_read 48 = .ok (.goto 16, 3) := by decide +kernel
theorem dX3_read_51 : decode cX3_read 51 = .ok (.aload_n 0, 1) := by decide +kernel
theorem dX3_read_52 : decode cX3_read 52 = .ok (.getfield 9, 3) := by decide +kernel
theorem dX3_read_55 : decode cX3_read 55 = .ok (.invokevirtual 32, 3) := by decide +kernel
theorem dX3_read_58 : decode cX3_read 58 = .ok (.iinc 1 1, 3) := by decide +kernel
theorem dX3_read_61 : decode cX3_read 61 = .ok (.goto (-52), 3) := by decide +kernel
theorem dX3_read_64 : decode cX3_read 64 = .ok (.iconst (-1), 1) := by decide +kernel
theorem dX3_read_65 : decode cX3_read 65 = .ok (.aload_n 0, 1) := by decide +kernel
theorem dX3_read_66 : decode cX3_read 66 = .ok (.getfield 9, 3) := by decide +kernel
theorem dX3_read_69 : decode cX3_read 69 = .ok (.getfield 35, 3) := by decide +kernel
theorem dX3_read_72 : decode cX3_read 72 = .ok (.isub, 1) := by decide +kernel
theorem dX3_read_73 : decode cX3_read 73 = .ok (.ireturn, 1) := by decide +kernel
set_option maxRecDepth 20000 in
theorem ggX3_readItem_X3_kindOfWord : GoodIn wsX3_readItem wsX3_kindOfWord := goodIn_r _ [8, 9, 10, 11, 7, 12, 13, 14, 15, 16, 17, 18, 19, 20, 21, 22, 23, 24, 25, 26, 27, 28, 29, 30, 31, 32, 33, 34, 35, 36, 37, 38, 39, 40, 41, 42, 43, 44, 45, 46, 47, 48, 49, 50, 51, 52, 53, 54, 55, 56, 57, 58, 59, 60, 61, 62, 63, 64, 65, 66, 67, 68, 69, 70, 128, 129, 130, 145, 146, 147, 148, 149, 150] (by decide +kernel) (by decide +kernel)
set_option maxRecDepth 20000 in
theorem gX3_readItem_X3_kindOfWord : GoodIn wsX3_readItem (wsV RX3 38 RX3 yX3_kindOfWord wsX3_kindOfWord) := goodIn_app (goodIn_of _ (by decide +kernel)) ggX3_readItem_X3_kindOfWord
set_option maxRecDepth 20000 in
theorem ggX3_readItem_X3_readBather : GoodIn wsX3_readItem wsX3_readBather := goodIn_r _ [74, 1, 75, 9, 76, 77, 78, 79, 80, 81, 16, 82, 19, 20, 83, 21, 84, 18, 85, 86, 87, 88, 89, 90, 91, 92, 93, 94, 95, 96, 97, 98, 7, 99, 100, 101, 102, 103, 104, 13, 14, 15, 17, 22, 23, 24, 25, 26, 27, 28, 29, 30, 31, 32, 33, 34, 35, 36, 37, 38, 39, 40, 41, 42, 43, 44, 45, 46, 47, 48, 49, 50, 51, 52, 53, 54, 55, 56, 57, 58, 59, 60, 61, 62, 63, 64, 65, 66, 67, 68, 69, 70, 105, 106, 107, 108, 109, 110, 111, 112, 113, 128, 129, 130, 131, 132, 133, 134, 135, 136, 137, 138, 139, 140, 141, 142, 143, 144, 145, 146, 147, 148, 149, 150] (by decide +kernel) (by decide +kernel)
set_option maxRecDepth 20000 in
theorem gX3_readItem_X3_readBather : GoodIn wsX3_readItem (wsV RX3 42 RX3 yX3_readBather wsX3_readBather) := goodIn_app (goodIn_of _ (by decide +kernel)) ggX3_readItem_X3_readBather
set_option maxRecDepth 20000 in
theorem ggX3_readItem_X3_takeWord : GoodIn wsX3_readItem wsX3_takeWord := goodIn_r _ [104, 9, 13, 14, 15, 16, 17, 18, 19, 20, 21, 22, 23, 24, 25, 26, 27, 28, 29, 30, 31, 32, 33, 34, 35, 36, 37, 38, 39, 40, 41, 42, 43, 44, 45, 46, 47, 48, 49, 50, 51, 52, 53, 54, 55, 56, 57, 58, 59, 60, 61, 62, 63, 64, 65, 66, 67, 68, 69, 70, 79, 80, 81, 82, 83, 84, 128, 129, 130, 145, 146, 147, 148, 149, 150] (by decide +kernel) (by decide +kernel)
set_option maxRecDepth 20000 in
theorem gX3_readItem_X3_takeWord : GoodIn wsX3_readItem (wsV RX3 48 RX3 yX3_takeWord wsX3_takeWord) := goodIn_app (goodIn_of _ (by decide +kernel)) ggX3_readItem_X3_takeWord
set_option maxRecDepth 20000 in
theorem ggX3_readItem_X3_readCellRow : GoodIn wsX3_readItem wsX3_readCellRow := goodIn_r _ [117, 100, 105, 106, 107, 7, 108, 9, 109, 110, 111, 112, 16, 113, 20, 19, 21, 79, 80, 81, 82, 83, 84, 18, 128, 129, 130, 145, 146, 147, 148, 149, 150] (by decide +kernel) (by decide +kernel)
set_option maxRecDepth 20000 in
theorem gX3_readItem_X3_readCellRow : GoodIn wsX3_readItem (wsV RX3 57 RX3 yX3_readCellRow wsX3_readCellRow) := goodIn_app (goodIn_of _ (by decide +kernel)) ggX3_readItem_X3_readCellRow
set_option maxRecDepth 20000 in
theorem ggX3_readItem_X3_readGuard : GoodIn wsX3_readItem wsX3_readGuard := goodIn_r _ [121, 100, 1, 122, 105, 106, 107, 7, 108, 9, 109, 110, 111, 112, 16, 113, 20, 19, 21, 79, 80, 81, 82, 83, 84, 18, 96, 97, 98, 99, 101, 102, 103, 104, 13, 14, 15, 17, 22, 23, 24, 25, 26, 27, 28, 29, 30, 31, 32, 33, 34, 35, 36, 37, 38, 39, 40, 41, 42, 43, 44, 45, 46, 47, 48, 49, 50, 51, 52, 53, 54, 55, 56, 57, 58, 59, 60, 61, 62, 63, 64, 65, 66, 67, 68, 69, 70, 128, 129, 130, 131, 132, 133, 134, 135, 136, 137, 138, 139, 140, 141, 142, 143, 144, 145, 146, 147, 148, 149, 150] (by decide +kernel) (by decide +kernel)
set_option maxRecDepth 20000 in
theorem gX3_readItem_X3_readGuard : GoodIn wsX3_readItem (wsV RX3 67 RX3 yX3_readGuard wsX3_readGuard) := goodIn_app (goodIn_of _ (by decide +kernel)) ggX3_readItem_X3_readGuard
set_option maxRecDepth 20000 in
theorem ggX3_readItem_X3_readSight : GoodIn wsX3_readItem wsX3_readSight := goodIn_r _ [126, 1, 100, 127, 105, 106, 107, 7, 108, 9, 109, 110, 111, 112, 16, 113, 20, 19, 21, 79, 80, 81, 82, 83, 84, 18, 128, 129, 130, 131, 132, 133, 134, 135, 136, 137, 138, 139, 140, 141, 142, 143, 144, 145, 146, 147, 148, 149, 150] (by decide +kernel) (by decide +kernel)
set_option maxRecDepth 20000 in
theorem gX3_readItem_X3_readSight : GoodIn wsX3_readItem (wsV RX3 72 RX3 yX3_readSight wsX3_readSight) := goodIn_app (goodIn_of _ (by decide +kernel)) ggX3_readItem_X3_readSight
theorem dX3_readItem_0 : decode cX3_readItem 0 = .ok (.aload_n 0, 1) := by decide +kernel
theorem dX3_readItem_1 : decode cX3_readItem 1 = .ok (.invokevirtual 38, 3) := by decide +kernel
theorem dX3_readItem_4 : decode cX3_readItem 4 = .ok (.istore_n 1, 1) := by decide +kernel
theorem dX3_readItem_5 : decode cX3_readItem 5 = .ok (.iload_n 1, 1) := by decide +kernel
theorem dX3_readItem_6 : decode cX3_readItem 6 = .ok (.ifCond .lt 9, 3) := by decide +kernel
theorem dX3_readItem_9 : decode cX3_readItem 9 = .ok (.aload_n 0, 1) := by decide +kernel
theorem dX3_readItem_10 : decode cX3_readItem 10 = .ok (.iload_n 1, 1) := by decide +kernel
theorem dX3_readItem_11 : decode cX3_readItem 11 = .ok (.invokevirtual 42, 3) := by decide +kernel
theorem dX3_readItem_14 : decode cX3_readItem 14 = .ok (.ireturn, 1) := by decide +kernel
theorem dX3_readItem_15 : decode cX3_readItem 15 = .ok (.aload_n 0, 1) := by decide +kernel
theorem dX3_readItem_16 : decode cX3_readItem 16 = .ok (.ldc 46, 2) := by decide +kernel
theorem dX3_readItem_18 : decode cX3_readItem 18 = .ok (.invokevirtual 48, 3) := by decide +kernel
theorem dX3_readItem_21 : decode cX3_readItem 21 = .ok (.ifCond .eq 17, 3) := by decide +kernel
theorem dX3_readItem_24 : decode cX3_readItem 24 = .ok (.aload_n 0, 1) := by decide +kernel
theorem dX3_readItem_25 : decode cX3_readItem 25 = .ok (.aload_n 0, 1) := by decide +kernel
theorem dX3_readItem_26 : decode cX3_readItem 26 = .ok (.getfield 15, 3) := by decide +kernel
theorem dX3_readItem_29 : decode cX3_readItem 29 = .ok (.getfield 52, 3) := by decide +kernel
theorem dX3_readItem_32 : decode cX3_readItem 32 = .ok (.bipush 9, 2) := by decide +kernel
theorem dX3_readItem_34 : decode cX3_readItem 34 = .ok (.invokevirtual 57, 3) := by decide +kernel
theorem dX3_readItem_37 : decode cX3_readItem 37 = .ok (.ireturn, 1) := by decide +kernel
theorem dX3_readItem_38 : decode cX3_readItem 38 = .ok (.aload_n 0, 1) := by decide +kernel
theorem dX3_readItem_39 : decode cX3_readItem 39 = .ok (.ldc 61, 2) := by decide +kernel
theorem dX3_readItem_41 : decode cX3_readItem 41 = .ok (.invokevirtual 48, 3) := by decide +kernel
theorem dX3_readItem_44 : decode cX3_readItem 44 = .ok (.ifCond .eq 16, 3) := by decide +kernel
theorem dX3_readItem_47 : decode cX3_readItem 47 = .ok (.aload_n 0, 1) := by decide +kernel
theorem dX3_readItem_48 : decode cX3_readItem 48 = .ok (.aload_n 0, 1) := by decide +kernel
theorem dX3_readItem_49 : decode cX3_readItem 49 = .ok (.getfield 15, 3) := by decide +kernel
theorem dX3_readItem_52 : decode cX3_readItem 52 = .ok (.getfield 63, 3) := by decide +kernel
theorem dX3_readItem_55 : decode cX3_readItem 55 = .ok (.iconst 4, 1) := by decide +kernel
theorem dX3_readItem_56 : decode cX3_readItem 56 = .ok (.invokevirtual 57, 3) := by decide +kernel
theorem dX3_readItem_59 : decode cX3_readItem 59 = .ok (.ireturn, 1) := by decide +kernel
theorem dX3_readItem_60 : decode cX3_readItem 60 = .ok (.aload_n 0, 1) := by decide +kernel
theorem dX3_readItem_61 : decode cX3_readItem 61 = .ok (.ldc 65, 2) := by decide +kernel
theorem dX3_readItem_63 : decode cX3_readItem 63 = .ok (.invokevirtual 48, 3) := by decide +kernel
theorem dX3_readItem_66 : decode cX3_readItem 66 = .ok (.ifCond .eq 8, 3) := by decide +kernel
theorem dX3_readItem_69 : decode cX3_readItem 69 = .ok (.aload_n 0, 1) := by decide +kernel
theorem dX3_readItem_70 : decode cX3_readItem 70 = .ok (.invokevirtual 67, 3) := by decide +kernel
theorem dX3_readItem_73 : decode cX3_readItem 73 = .ok (.ireturn, 1) := by decide +kernel
theorem dX3_readItem_74 : decode cX3_readItem 74 = .ok (.aload_n 0, 1) := by decide +kernel
theorem dX3_readItem_75 : decode cX3_readItem 75 = .ok (.ldc 70, 2) := by decide +kernel
theorem dX3_readItem_77 : decode cX3_readItem 77 = .ok (.invokevirtual 48, 3) := by decide +kernel
theorem dX3_readItem_80 : decode cX3_readItem 80 = .ok (.ifCond .eq 8, 3) := by decide +kernel
theorem dX3_readItem_83 : decode cX3_readItem 83 = .ok (.aload_n 0, 1) := by decide +kernel
theorem dX3_readItem_84 : decode cX3_readItem 84 = .ok (.invokevirtual 72, 3) := by decide +kernel
theorem dX3_readItem_87 : decode cX3_readItem 87 = .ok (.ireturn, 1) := by decide +kernel
theorem dX3_readItem_88 : decode cX3_readItem 88 = .ok (.iconst 0, 1) := by decide +kernel
theorem dX3_readItem_89 : decode cX3_readItem 89 = .ok (.ireturn, 1) := by decide +kernel
set_option maxRecDepth 20000 in
theorem ggX3_kindOfWord_X3_nameOf : GoodIn wsX3_kindOfWord wsX3_nameOf := goodIn_r _ [5] (by decide +kernel) (by decide +kernel)
set_option maxRecDepth 20000 in
theorem gX3_kindOfWord_X3_nameOf : GoodIn wsX3_kindOfWord (va_wsS RX3 75 yX3_nameOf wsX3_nameOf) := goodIn_app (goodIn_of _ (by decide +kernel)) ggX3_kindOfWord_X3_nameOf
set_option maxRecDepth 20000 in
theorem ggX3_kindOfWord_X2_isWord : GoodIn wsX3_kindOfWord wsX2_isWord := goodIn_r _ [10, 11, 12, 13, 14, 15, 16, 17, 18, 19, 20, 21, 22, 23, 24, 25, 26, 27, 28, 29, 30, 31, 32, 33, 34, 35, 36, 37, 38, 39, 40, 41, 42, 43, 44, 45, 46, 47, 48, 49, 50, 51, 52, 53, 54, 55, 56, 57, 58, 59, 60, 61, 62, 63, 67, 68, 69, 70, 71, 72] (by decide +kernel) (by decide +kernel)
set_option maxRecDepth 20000 in
theorem gX3_kindOfWord_X2_isWord : GoodIn wsX3_kindOfWord (wsV RX3 79 RX2 yX2_isWord wsX2_isWord) := goodIn_app (goodIn_of _ (by decide +kernel)) ggX3_kindOfWord_X2_isWord
theorem dX3_kindOfWord_0 : decode cX3_kindOfWord 0 = .ok (.iconst 0, 1) := by decide +kernel
theorem dX3_kindOfWord_1 : decode cX3_kindOfWord 1 = .ok (.istore_n 1, 1) := by decide +kernel
theorem dX3_kindOfWord_2 : decode cX3_kindOfWord 2 = .ok (.iload_n 1, 1) := by decide +kernel
theorem dX3_kindOfWord_3 : decode cX3_kindOfWord 3 = .ok (.bipush 7, 2) := by decide +kernel
theorem dX3_kindOfWord_5 : decode cX3_kindOfWord 5 = .ok (.if_icmp .ge 25, 3) := by decide +kernel
theorem dX3_kindOfWord_8 : decode cX3_kindOfWord 8 = .ok (.aload_n 0, 1) := by decide +kernel
theorem dX3_kindOfWord_9 : decode cX3_kindOfWord 9 = .ok (.getfield 9, 3) := by decide +kernel
theorem dX3_kindOfWord_12 : decode cX3_kindOfWord 12 = .ok (.iload_n 1, 1) := by decide +kernel
theorem dX3_kindOfWord_13 : decode cX3_kindOfWord 13 = .ok (.invokestatic 75, 3) := by decide +kernel
theorem dX3_kindOfWord_16 : decode cX3_kindOfWord 16 = .ok (.invokevirtual 79, 3) := by decide +kernel
theorem dX3_kindOfWord_19 : decode cX3_kindOfWord 19 = .ok (.ifCond .eq 5, 3) := by decide +kernel
theorem dX3_kindOfWord_22 : decode cX3_kindOfWord 22 = .ok (.iload_n 1, 1) := by decide +kernel
theorem dX3_kindOfWord_23 : decode cX3_kindOfWord 23 = .ok (.ireturn, 1) := by decide +kernel
theorem dX3_kindOfWord_24 : decode cX3_kindOfWord 24 = .ok (.iinc 1 1, 3) := by decide +kernel
theorem dX3_kindOfWord_27 : decode cX3_kindOfWord 27 = .ok (.goto (-25), 3) := by decide +kernel
theorem dX3_kindOfWord_30 : decode cX3_kindOfWord 30 = .ok (.iconst (-1), 1) := by decide +kernel
theorem dX3_kindOfWord_31 : decode cX3_kindOfWord 31 = .ok (.ireturn, 1) := by decide +kernel
theorem dX3_nameOf_0 : decode cX3_nameOf 0 = .ok (.iload_n 0, 1) := by decide +kernel
theorem dX3_nameOf_1 : decode cX3_nameOf 1 = .ok (.tableswitch 57 1 6 #[39, 42, 45, 48, 51, 54], 39) := by decide +kernel
theorem dX3_nameOf_40 : decode cX3_nameOf 40 = .ok (.ldc 82, 2) := by decide +kernel
theorem dX3_nameOf_42 : decode cX3_nameOf 42 = .ok (.areturn, 1) := by decide +kernel
theorem dX3_nameOf_43 : decode cX3_nameOf 43 = .ok (.ldc 84, 2) := by decide +kernel
theorem dX3_nameOf_45 : decode cX3_nameOf 45 = .ok (.areturn, 1) := by decide +kernel
theorem dX3_nameOf_46 : decode cX3_nameOf 46 = .ok (.ldc 86, 2) := by decide +kernel
theorem dX3_nameOf_48 : decode cX3_nameOf 48 = .ok (.areturn, 1) := by decide +kernel
theorem dX3_nameOf_49 : decode cX3_nameOf 49 = .ok (.ldc 88, 2) := by decide +kernel
theorem dX3_nameOf_51 : decode cX3_nameOf 51 = .ok (.areturn, 1) := by decide +kernel
theorem dX3_nameOf_52 : decode cX3_nameOf 52 = .ok (.ldc 90, 2) := by decide +kernel
theorem dX3_nameOf_54 : decode cX3_nameOf 54 = .ok (.areturn, 1) := by decide +kernel
theorem dX3_nameOf_55 : decode cX3_nameOf 55 = .ok (.ldc 92, 2) := by decide +kernel
theorem dX3_nameOf_57 : decode cX3_nameOf 57 = .ok (.areturn, 1) := by decide +kernel
theorem dX3_nameOf_58 : decode cX3_nameOf 58 = .ok (.ldc 94, 2) := by decide +kernel
theorem dX3_nameOf_60 : decode cX3_nameOf 60 = .ok (.areturn, 1) := by decide +kernel
set_option maxRecDepth 20000 in
theorem ggX3_readBather_X2_readToken : GoodIn wsX3_readBather wsX2_readToken := goodIn_r _ [11, 12, 13, 14, 15, 16, 17, 118, 119, 120, 121, 122, 123] (by decide +kernel) (by decide +kernel)
set_option maxRecDepth 20000 in
theorem gX3_readBather_X2_readToken : GoodIn wsX3_readBather (wsV RX3 32 RX2 yX2_readToken wsX2_readToken) := goodIn_app (goodIn_of _ (by decide +kernel)) ggX3_readBather_X2_readToken
set_option maxRecDepth 20000 in
theorem ggX3_readBather_X6_admit : GoodIn wsX3_readBather wsX6_admit := goodIn_r _ [22, 23, 24, 25, 26, 27, 28, 104, 105, 106, 107, 108, 109, 110, 111, 112, 113, 114, 115, 116, 117] (by decide +kernel) (by decide +kernel)
set_option maxRecDepth 20000 in
theorem gX3_readBather_X6_admit : GoodIn wsX3_readBather (wsV RX3 99 RX6 yX6_admit wsX6_admit) := goodIn_app (goodIn_of _ (by decide +kernel)) ggX3_readBather_X6_admit
set_option maxRecDepth 20000 in
theorem ggX3_readBather_X3_readMaybe : GoodIn wsX3_readBather wsX3_readMaybe := goodIn_r _ [33, 34, 35, 36, 37, 32, 38, 3, 39, 40, 41, 10, 42, 17, 12, 13, 15, 43, 44, 45, 46, 47, 48, 49, 50, 51, 52, 53, 54, 55, 56, 57, 58, 59, 60, 61, 62, 63, 64, 65, 66, 67, 68, 69, 70, 71, 72, 73, 74, 75, 76, 77, 78, 79, 80, 81, 82, 83, 84, 85, 86, 87, 88, 89, 90, 91, 7, 8, 9, 11, 14, 16, 92, 93, 94, 95, 96, 97, 98, 99, 100, 101, 102, 103, 118, 119, 120, 121, 122, 123] (by decide +kernel) (by decide +kernel)
set_option maxRecDepth 20000 in
theorem gX3_readBather_X3_readMaybe : GoodIn wsX3_readBather (wsV RX3 109 RX3 yX3_readMaybe wsX3_readMaybe) := goodIn_app (goodIn_of _ (by decide +kernel)) ggX3_readBather_X3_readMaybe
theorem dX3_readBather_0 : decode cX3_readBather 0 = .ok (.aload_n 0, 1) := by decide +kernel
theorem dX3_readBather_1 : decode cX3_readBather 1 = .ok (.getfield 15, 3) := by decide +kernel
theorem dX3_readBather_4 : decode cX3_readBather 4 = .ok (.getfield 96, 3) := by decide +kernel
theorem dX3_readBather_7 : decode cX3_readBather 7 = .ok (.bipush 8, 2) := by decide +kernel
theorem dX3_readBather_9 : decode cX3_readBather 9 = .ok (.if_icmp .lt 5, 3) := by decide +kernel
theorem dX3_readBather_12 : decode cX3_readBather 12 = .ok (.iconst 0, 1) := by decide +kernel
theorem dX3_readBather_13 : decode cX3_readBather 13 = .ok (.ireturn, 1) := by decide +kernel
theorem dX3_readBather_14 : decode cX3_readBather 14 = .ok (.aload_n 0, 1) := by decide +kernel
theorem dX3_readBather_15 : decode cX3_readBather 15 = .ok (.getfield 9, 3) := by decide +kernel
theorem dX3_readBather_18 : decode cX3_readBather 18 = .ok (.invokevirtual 32, 3) := by decide +kernel
theorem dX3_readBather_21 : decode cX3_readBather 21 = .ok (.aload_n 0, 1) := by decide +kernel
theorem dX3_readBather_22 : decode cX3_readBather 22 = .ok (.getfield 15, 3) := by decide +kernel
theorem dX3_readBather_25 : decode cX3_readBather 25 = .ok (.iload_n 1, 1) := by decide +kernel
theorem dX3_readBather_26 : decode cX3_readBather 26 = .ok (.iconst 0, 1) := by decide +kernel
theorem dX3_readBather_27 : decode cX3_readBather 27 = .ok (.invokevirtual 99, 3) := by decide +kernel
theorem dX3_readBather_30 : decode cX3_readBather 30 = .ok (.istore_n 2, 1) := by decide +kernel
theorem dX3_readBather_31 : decode cX3_readBather 31 = .ok (.aload_n 0, 1) := by decide +kernel
theorem dX3_readBather_32 : decode cX3_readBather 32 = .ok (.ldc 103, 2) := by decide +kernel
theorem dX3_readBather_34 : decode cX3_readBather 34 = .ok (.aload_n 0, 1) := by decide +kernel
theorem dX3_readBather_35 : decode cX3_readBather 35 = .ok (.getfield 15, 3) := by decide +kernel
theorem dX3_readBather_38 : decode cX3_readBather 38 = .ok (.getfield 105, 3) := by decide +kernel
theorem dX3_readBather_41 : decode cX3_readBather 41 = .ok (.iload_n 2, 1) := by decide +kernel
theorem dX3_readBather_42 : decode cX3_readBather 42 = .ok (.bipush 47, 2) := by decide +kernel
theorem dX3_readBather_44 : decode cX3_readBather 44 = .ok (.invokevirtual 109, 3) := by decide +kernel
theorem dX3_readBather_47 : decode cX3_readBather 47 = .ok (.ifCond .eq 44, 3) := by decide +kernel
theorem dX3_readBather_50 : decode cX3_readBather 50 = .ok (.aload_n 0, 1) := by decide +kernel
theorem dX3_readBather_51 : decode cX3_readBather 51 = .ok (.ldc 113, 2) := by decide +kernel
theorem dX3_readBather_53 : decode cX3_readBather 53 = .ok (.aload_n 0, 1) := by decide +kernel
theorem dX3_readBather_54 : decode cX3_readBather 54 = .ok (.getfield 15, 3) := by decide +kernel
theorem dX3_readBather_57 : decode cX3_readBather 57 = .ok (.getfield 115, 3) := by decide +kernel
theorem dX3_readBather_60 : decode cX3_readBather 60 = .ok (.iload_n 2, 1) := by decide +kernel
theorem dX3_readBather_61 : decode cX3_readBather 61 = .ok (.iconst 1, 1) := by decide +kernel
theorem dX3_readBather_62 : decode cX3_readBather 62 = .ok (.invokevirtual 109, 3) := by decide +kernel
theorem dX3_readBather_65 : decode cX3_readBather 65 = .ok (.ifCond .eq 26, 3) := by decide +kernel
theorem dX3_readBather_68 : decode cX3_readBather 68 = .ok (.aload_n 0, 1) := by decide +kernel
theorem dX3_readBather_69 : decode cX3_readBather 69 = .ok (.ldc 117, 2) := by decide +kernel
theorem dX3_readBather_71 : decode cX3_readBather 71 = .ok (.aload_n 0, 1) := by decide +kernel
theorem dX3_readBather_72 : decode cX3_readBather 72 = .ok (.getfield 15, 3) := by decide +kernel
theorem dX3_readBather_75 : decode cX3_readBather 75 = .ok (.getfield 119, 3) := by decide +kernel
theorem dX3_readBather_78 : decode cX3_readBather 78 = .ok (.iload_n 2, 1) := by decide +kernel
theorem dX3_readBather_79 : decode cX3_readBather 79 = .ok (.bipush 99, 2) := by decide +kernel
theorem dX3_readBather_81 : decode cX3_readBather 81 = .ok (.invokevirtual 109, 3) := by decide +kernel
theorem dX3_readBather_84 : decode cX3_readBather 84 = .ok (.ifCond .eq 7, 3) := by decide +kernel
theorem dX3_readBather_87 : decode cX3_readBather 87 = .ok (.iconst 1, 1) := by decide +kernel
theorem dX3_readBather_88 : decode cX3_readBather 88 = .ok (.goto 4, 3) := by decide +kernel
theorem dX3_readBather_91 : decode cX3_readBather 91 = .ok (.iconst 0, 1) := by decide +kernel
theorem dX3_readBather_92 : decode cX3_readBather 92 = .ok (.ireturn, 1) := by decide +kernel
set_option maxRecDepth 20000 in
theorem ggX3_readCellRow_X3_takeNumber : GoodIn wsX3_readCellRow wsX3_takeNumber := goodIn_r _ [6, 7, 8, 1, 9, 10, 11, 12, 13, 14, 15, 16, 17, 18, 19, 20, 21, 22, 23, 24, 25, 26, 27, 28, 29, 30, 31, 32] (by decide +kernel) (by decide +kernel)
set_option maxRecDepth 20000 in
theorem gX3_readCellRow_X3_takeNumber : GoodIn wsX3_readCellRow (wsV RX3 121 RX3 yX3_takeNumber wsX3_takeNumber) := goodIn_app (goodIn_of _ (by decide +kernel)) ggX3_readCellRow_X3_takeNumber
theorem dX3_readCellRow_0 : decode cX3_readCellRow 0 = .ok (.aload_n 0, 1) := by decide +kernel
theorem dX3_readCellRow_1 : decode cX3_readCellRow 1 = .ok (.bipush 47, 2) := by decide +kernel
theorem dX3_readCellRow_3 : decode cX3_readCellRow 3 = .ok (.invokevirtual 121, 3) := by decide +kernel
theorem dX3_readCellRow_6 : decode cX3_readCellRow 6 = .ok (.ifCond .ne 5, 3) := by decide +kernel
theorem dX3_readCellRow_9 : decode cX3_readCellRow 9 = .ok (.iconst 0, 1) := by decide +kernel
theorem dX3_readCellRow_10 : decode cX3_readCellRow 10 = .ok (.ireturn, 1) := by decide +kernel
theorem dX3_readCellRow_11 : decode cX3_readCellRow 11 = .ok (.aload_n 0, 1) := by decide +kernel
theorem dX3_readCellRow_12 : decode cX3_readCellRow 12 = .ok (.getfield 124, 3) := by decide +kernel
theorem dX3_readCellRow_15 : decode cX3_readCellRow 15 = .ok (.istore_n 3, 1) := by decide +kernel
theorem dX3_readCellRow_16 : decode cX3_readCellRow 16 = .ok (.aload_n 0, 1) := by decide +kernel
theorem dX3_readCellRow_17 : decode cX3_readCellRow 17 = .ok (.iload_n 2, 1) := by decide +kernel
theorem dX3_readCellRow_18 : decode cX3_readCellRow 18 = .ok (.invokevirtual 121, 3) := by decide +kernel
theorem dX3_readCellRow_21 : decode cX3_readCellRow 21 = .ok (.ifCond .ne 5, 3) := by decide +kernel
theorem dX3_readCellRow_24 : decode cX3_readCellRow 24 = .ok (.iconst 0, 1) := by decide +kernel
theorem dX3_readCellRow_25 : decode cX3_readCellRow 25 = .ok (.ireturn, 1) := by decide +kernel
theorem dX3_readCellRow_26 : decode cX3_readCellRow 26 = .ok (.aload_n 1, 1) := by decide +kernel
theorem dX3_readCellRow_27 : decode cX3_readCellRow 27 = .ok (.iload_n 3, 1) := by decide +kernel
theorem dX3_readCellRow_28 : decode cX3_readCellRow 28 = .ok (.aload_n 0, 1) := by decide +kernel
theorem dX3_readCellRow_29 : decode cX3_readCellRow 29 = .ok (.getfield 124, 3) := by decide +kernel
theorem dX3_readCellRow_32 : decode cX3_readCellRow 32 = .ok (.iastore, 1) := by decide +kernel
theorem dX3_readCellRow_33 : decode cX3_readCellRow 33 = .ok (.iconst 1, 1) := by decide +kernel
theorem dX3_readCellRow_34 : decode cX3_readCellRow 34 = .ok (.ireturn, 1) := by decide +kernel
set_option maxRecDepth 20000 in
theorem ggX3_readGuard_X3_takeNumber : GoodIn wsX3_readGuard wsX3_takeNumber := goodIn_r _ [8, 9, 10, 1, 11, 12, 13, 14, 15, 16, 17, 18, 19, 20, 21, 22, 23, 24, 25, 87, 88, 89, 104, 105, 106, 107, 108, 109] (by decide +kernel) (by decide +kernel)
set_option maxRecDepth 20000 in
theorem gX3_readGuard_X3_takeNumber : GoodIn wsX3_readGuard (wsV RX3 121 RX3 yX3_takeNumber wsX3_takeNumber) := goodIn_app (goodIn_of _ (by decide +kernel)) ggX3_readGuard_X3_takeNumber
set_option maxRecDepth 20000 in
theorem ggX3_readGuard_X3_readMaybe : GoodIn wsX3_readGuard wsX3_readMaybe := goodIn_r _ [29, 1, 30, 31, 32, 7, 33, 9, 34, 35, 36, 14, 37, 25, 17, 16, 18, 38, 39, 40, 41, 42, 43, 44, 45, 46, 47, 48, 49, 50, 51, 52, 53, 54, 55, 56, 57, 58, 59, 60, 61, 62, 63, 64, 65, 66, 67, 68, 69, 70, 71, 72, 73, 74, 75, 76, 77, 78, 79, 80, 81, 82, 83, 84, 85, 86, 19, 20, 21, 22, 23, 24, 4, 5, 6, 8, 10, 11, 12, 13, 15, 87, 88, 89, 104, 105, 106, 107, 108, 109] (by decide +kernel) (by decide +kernel)
set_option maxRecDepth 20000 in
theorem gX3_readGuard_X3_readMaybe : GoodIn wsX3_readGuard (wsV RX3 109 RX3 yX3_readMaybe wsX3_readMaybe) := goodIn_app (goodIn_of _ (by decide +kernel)) ggX3_readGuard_X3_readMaybe
theorem dX3_readGuard_0 : decode cX3_readGuard 0 = .ok (.aload_n 0, 1) := by decide +kernel
theorem dX3_readGuard_1 : decode cX3_readGuard 1 = .ok (.iconst 3, 1) := by decide +kernel
theorem dX3_readGuard_2 : decode cX3_readGuard 2 = .ok (.invokevirtual 121, 3) := by decide +kernel
theorem dX3_readGuard_5 : decode cX3_readGuard 5 = .ok (.ifCond .ne 5, 3) := by decide +kernel
theorem dX3_readGuard_8 : decode cX3_readGuard 8 = .ok (.iconst 0, 1) := by decide +kernel
theorem dX3_readGuard_9 : decode cX3_readGuard 9 = .ok (.ireturn, 1) := by decide +kernel
theorem dX3_readGuard_10 : decode cX3_readGuard 10 = .ok (.aload_n 0, 1) := by decide +kernel
theorem dX3_readGuard_11 : decode cX3_readGuard 11 = .ok (.getfield 124, 3) := by decide +kernel
theorem dX3_readGuard_14 : decode cX3_readGuard 14 = .ok (.istore_n 1, 1) := by decide +kernel
theorem dX3_readGuard_15 : decode cX3_readGuard 15 = .ok (.aload_n 0, 1) := by decide +kernel
theorem dX3_readGuard_16 : decode cX3_readGuard 16 = .ok (.getfield 15, 3) := by decide +kernel
theorem dX3_readGuard_19 : decode cX3_readGuard 19 = .ok (.getfield 127, 3) := by decide +kernel
theorem dX3_readGuard_22 : decode cX3_readGuard 22 = .ok (.iload_n 1, 1) := by decide +kernel
theorem dX3_readGuard_23 : decode cX3_readGuard 23 = .ok (.iconst (-1), 1) := by decide +kernel
theorem dX3_readGuard_24 : decode cX3_readGuard 24 = .ok (.iastore, 1) := by decide +kernel
theorem dX3_readGuard_25 : decode cX3_readGuard 25 = .ok (.aload_n 0, 1) := by decide +kernel
theorem dX3_readGuard_26 : decode cX3_readGuard 26 = .ok (.ldc 103, 2) := by decide +kernel
theorem dX3_readGuard_28 : decode cX3_readGuard 28 = .ok (.aload_n 0, 1) := by decide +kernel
theorem dX3_readGuard_29 : decode cX3_readGuard 29 = .ok (.getfield 15, 3) := by decide +kernel
theorem dX3_readGuard_32 : decode cX3_readGuard 32 = .ok (.getfield 127, 3) := by decide +kernel
theorem dX3_readGuard_35 : decode cX3_readGuard 35 = .ok (.iload_n 1, 1) := by decide +kernel
theorem dX3_readGuard_36 : decode cX3_readGuard 36 = .ok (.bipush 47, 2) := by decide +kernel
theorem dX3_readGuard_38 : decode cX3_readGuard 38 = .ok (.invokevirtual 109, 3) := by decide +kernel
theorem dX3_readGuard_41 : decode cX3_readGuard 41 = .ok (.ireturn, 1) := by decide +kernel
set_option maxRecDepth 20000 in
theorem ggX3_readSight_X3_takeNumber : GoodIn wsX3_readSight wsX3_takeNumber := goodIn_r _ [8, 9, 10, 2, 11, 12, 13, 14, 15, 16, 17, 18, 19, 20, 21, 22, 23, 24, 25, 26, 27, 28, 43, 44, 45, 46, 47, 48] (by decide +kernel) (by decide +kernel)
set_option maxRecDepth 20000 in
theorem gX3_readSight_X3_takeNumber : GoodIn wsX3_readSight (wsV RX3 121 RX3 yX3_takeNumber wsX3_takeNumber) := goodIn_app (goodIn_of _ (by decide +kernel)) ggX3_readSight_X3_takeNumber
theorem dX3_readSight_0 : decode cX3_readSight 0 = .ok (.aload_n 0, 1) := by decide +kernel
theorem dX3_readSight_1 : decode cX3_readSight 1 = .ok (.bipush 12, 2) := by decide +kernel
theorem dX3_readSight_3 : decode cX3_readSight 3 = .ok (.invokevirtual 121, 3) := by decide +kernel
theorem dX3_readSight_6 : decode cX3_readSight 6 = .ok (.ifCond .ne 5, 3) := by decide +kernel
theorem dX3_readSight_9 : decode cX3_readSight 9 = .ok (.iconst 0, 1) := by decide +kernel
theorem dX3_readSight_10 : decode cX3_readSight 10 = .ok (.ireturn, 1) := by decide +kernel
theorem dX3_readSight_11 : decode cX3_readSight 11 = .ok (.aload_n 0, 1) := by decide +kernel
theorem dX3_readSight_12 : decode cX3_readSight 12 = .ok (.getfield 15, 3) := by decide +kernel
theorem dX3_readSight_15 : decode cX3_readSight 15 = .ok (.aload_n 0, 1) := by decide +kernel
theorem dX3_readSight_16 : decode cX3_readSight 16 = .ok (.getfield 124, 3) := by decide +kernel
theorem dX3_readSight_19 : decode cX3_readSight 19 = .ok (.putfield 130, 3) := by decide +kernel
theorem dX3_readSight_22 : decode cX3_readSight 22 = .ok (.iconst 1, 1) := by decide +kernel
theorem dX3_readSight_23 : decode cX3_readSight 23 = .ok (.ireturn, 1) := by decide +kernel
set_option maxRecDepth 20000 in
theorem ggX3_readMaybe_X3_takeWord : GoodIn wsX3_readMaybe wsX3_takeWord := goodIn_r _ [6, 7, 8, 9, 10, 11, 12, 13, 14, 15, 16, 17, 18, 19, 20, 21, 22, 23, 24, 25, 26, 27, 28, 29, 30, 31, 32, 33, 34, 35, 36, 37, 38, 39, 40, 41, 42, 43, 44, 45, 46, 47, 48, 49, 50, 51, 52, 53, 54, 55, 56, 57, 58, 59, 60, 61, 62, 63, 64, 65, 66, 67, 68, 69, 70, 71, 81, 82, 83, 84, 85, 86, 87, 88, 89] (by decide +kernel) (by decide +kernel)
set_option maxRecDepth 20000 in
theorem gX3_readMaybe_X3_takeWord : GoodIn wsX3_readMaybe (wsV RX3 48 RX3 yX3_takeWord wsX3_takeWord) := goodIn_app (goodIn_of _ (by decide +kernel)) ggX3_readMaybe_X3_takeWord
set_option maxRecDepth 20000 in
theorem ggX3_readMaybe_X3_takeNumber : GoodIn wsX3_readMaybe wsX3_takeNumber := goodIn_r _ [75, 7, 76, 1, 77, 78, 79, 11, 80, 15, 14, 16, 66, 67, 68, 69, 70, 71, 13, 81, 82, 83, 84, 85, 86, 87, 88, 89] (by decide +kernel) (by decide +kernel)
set_option maxRecDepth 20000 in
theorem gX3_readMaybe_X3_takeNumber : GoodIn wsX3_readMaybe (wsV RX3 121 RX3 yX3_takeNumber wsX3_takeNumber) := goodIn_app (goodIn_of _ (by decide +kernel)) ggX3_readMaybe_X3_takeNumber
theorem dX3_readMaybe_0 : decode cX3_readMaybe 0 = .ok (.aload_n 0, 1) := by decide +kernel
theorem dX3_readMaybe_1 : decode cX3_readMaybe 1 = .ok (.aload_n 1, 1) := by decide +kernel
theorem dX3_readMaybe_2 : decode cX3_readMaybe 2 = .ok (.invokevirtual 48, 3) := by decide +kernel
theorem dX3_readMaybe_5 : decode cX3_readMaybe 5 = .ok (.ifCond .ne 5, 3) := by decide +kernel
theorem dX3_readMaybe_8 : decode cX3_readMaybe 8 = .ok (.iconst 1, 1) := by decide +kernel
theorem dX3_readMaybe_9 : decode cX3_readMaybe 9 = .ok (.ireturn, 1) := by decide +kernel
theorem dX3_readMaybe_10 : decode cX3_readMaybe 10 = .ok (.aload_n 0, 1) := by decide +kernel
theorem dX3_readMaybe_11 : decode cX3_readMaybe 11 = .ok (.iload 4, 2) := by decide +kernel
theorem dX3_readMaybe_13 : decode cX3_readMaybe 13 = .ok (.invokevirtual 121, 3) := by decide +kernel
theorem dX3_readMaybe_16 : decode cX3_readMaybe 16 = .ok (.ifCond .ne 5, 3) := by decide +kernel
theorem dX3_readMaybe_19 : decode cX3_readMaybe 19 = .ok (.iconst 0, 1) := by decide +kernel
theorem dX3_readMaybe_20 : decode cX3_readMaybe 20 = .ok (.ireturn, 1) := by decide +kernel
theorem dX3_readMaybe_21 : decode cX3_readMaybe 21 = .ok (.aload_n 2, 1) := by decide +kernel
theorem dX3_readMaybe_22 : decode cX3_readMaybe 22 = .ok (.iload_n 3, 1) := by decide +kernel
theorem dX3_readMaybe_23 : decode cX3_readMaybe 23 = .ok (.aload_n 0, 1) := by decide +kernel
theorem dX3_readMaybe_24 : decode cX3_readMaybe 24 = .ok (.getfield 124, 3) := by decide +kernel
theorem dX3_readMaybe_27 : decode cX3_readMaybe 27 = .ok (.iastore, 1) := by decide +kernel
theorem dX3_readMaybe_28 : decode cX3_readMaybe 28 = .ok (.iconst 1, 1) := by decide +kernel
theorem dX3_readMaybe_29 : decode cX3_readMaybe 29 = .ok (.ireturn, 1) := by decide +kernel
set_option maxRecDepth 20000 in
theorem ggX3_takeWord_X2_isWord : GoodIn wsX3_takeWord wsX2_isWord := goodIn_r _ [6, 7, 8, 9, 10, 11, 12, 13, 14, 15, 16, 17, 18, 19, 20, 21, 22, 23, 24, 25, 26, 27, 28, 29, 30, 31, 32, 33, 34, 35, 36, 37, 38, 39, 40, 41, 42, 43, 44, 45, 46, 47, 48, 49, 50, 51, 52, 53, 54, 55, 56, 57, 58, 59, 69, 70, 71, 72, 73, 74] (by decide +kernel) (by decide +kernel)
set_option maxRecDepth 20000 in
theorem gX3_takeWord_X2_isWord : GoodIn wsX3_takeWord (wsV RX3 79 RX2 yX2_isWord wsX2_isWord) := goodIn_app (goodIn_of _ (by decide +kernel)) ggX3_takeWord_X2_isWord
set_option maxRecDepth 20000 in
theorem ggX3_takeWord_X2_readToken : GoodIn wsX3_takeWord wsX2_readToken := goodIn_r _ [63, 8, 9, 64, 10, 65, 7, 69, 70, 71, 72, 73, 74] (by decide +kernel) (by decide +kernel)
set_option maxRecDepth 20000 in
theorem gX3_takeWord_X2_readToken : GoodIn wsX3_takeWord (wsV RX3 32 RX2 yX2_readToken wsX2_readToken) := goodIn_app (goodIn_of _ (by decide +kernel)) ggX3_takeWord_X2_readToken
theorem dX3_takeWord_0 : decode cX3_takeWord 0 = .ok (.aload_n 0, 1) := by decide +kernel
theorem dX3_takeWord_1 : decode cX3_takeWord 1 = .ok (.getfield 9, 3) := by decide +kernel
theorem dX3_takeWord_4 : decode cX3_takeWord 4 = .ok (.aload_n 1, 1) := by decide +kernel
theorem dX3_takeWord_5 : decode cX3_takeWord 5 = .ok (.invokevirtual 79, 3) := by decide +kernel
theorem dX3_takeWord_8 : decode cX3_takeWord 8 = .ok (.ifCond .ne 5, 3) := by decide +kernel
theorem dX3_takeWord_11 : decode cX3_takeWord 11 = .ok (.iconst 0, 1) := by decide +kernel
theorem dX3_takeWord_12 : decode cX3_takeWord 12 = .ok (.ireturn, 1) := by decide +kernel
theorem dX3_takeWord_13 : decode cX3_takeWord 13 = .ok (.aload_n 0, 1) := by decide +kernel
theorem dX3_takeWord_14 : decode cX3_takeWord 14 = .ok (.getfield 9, 3) := by decide +kernel
theorem dX3_takeWord_17 : decode cX3_takeWord 17 = .ok (.invokevirtual 32, 3) := by decide +kernel
theorem dX3_takeWord_20 : decode cX3_takeWord 20 = .ok (.iconst 1, 1) := by decide +kernel
theorem dX3_takeWord_21 : decode cX3_takeWord 21 = .ok (.ireturn, 1) := by decide +kernel
set_option maxRecDepth 20000 in
theorem ggX3_takeNumber_X2_number : GoodIn wsX3_takeNumber wsX2_number := goodIn_r _ [8, 9, 10, 11, 22, 23, 24, 25, 26, 27] (by decide +kernel) (by decide +kernel)
set_option maxRecDepth 20000 in
theorem gX3_takeNumber_X2_number : GoodIn wsX3_takeNumber (wsV RX3 132 RX2 yX2_number wsX2_number) := goodIn_app (goodIn_of _ (by decide +kernel)) ggX3_takeNumber_X2_number
set_option maxRecDepth 20000 in
theorem ggX3_takeNumber_X2_readToken : GoodIn wsX3_takeNumber wsX2_readToken := goodIn_r _ [15, 10, 9, 16, 11, 17, 18, 22, 23, 24, 25, 26, 27] (by decide +kernel) (by decide +kernel)
set_option maxRecDepth 20000 in
theorem gX3_takeNumber_X2_readToken : GoodIn wsX3_takeNumber (wsV RX3 32 RX2 yX2_readToken wsX2_readToken) := goodIn_app (goodIn_of _ (by decide +kernel)) ggX3_takeNumber_X2_readToken
theorem dX3_takeNumber_0 : decode cX3_takeNumber 0 = .ok (.aload_n 0, 1) := by decide +kernel
theorem dX3_takeNumber_1 : decode cX3_takeNumber 1 = .ok (.getfield 9, 3) := by decide +kernel
theorem dX3_takeNumber_4 : decode cX3_takeNumber 4 = .ok (.getfield 28, 3) := by decide +kernel
theorem dX3_takeNumber_7 : decode cX3_takeNumber 7 = .ok (.iconst 2, 1) := by decide +kernel
theorem dX3_takeNumber_8 : decode cX3_takeNumber 8 = .ok (.if_icmp .ne 14, 3) := by decide +kernel
theorem dX3_takeNumber_11 : decode cX3_takeNumber 11 = .ok (.aload_n 0, 1) := by decide +kernel
theorem dX3_takeNumber_12 : decode cX3_takeNumber 12 = .ok (.getfield 9, 3) := by decide +kernel
theorem dX3_takeNumber_15 : decode cX3_takeNumber 15 = .ok (.invokevirtual 132, 3) := by decide +kernel
theorem dX3_takeNumber_18 : decode cX3_takeNumber 18 = .ok (.iload_n 1, 1) := by decide +kernel
theorem dX3_takeNumber_19 : decode cX3_takeNumber 19 = .ok (.if_icmp .le 5, 3) := by decide +kernel
theorem dX3_takeNumber_22 : decode cX3_takeNumber 22 = .ok (.iconst 0, 1) := by decide +kernel
theorem dX3_takeNumber_23 : decode cX3_takeNumber 23 = .ok (.ireturn, 1) := by decide +kernel
theorem dX3_takeNumber_24 : decode cX3_takeNumber 24 = .ok (.aload_n 0, 1) := by decide +kernel
theorem dX3_takeNumber_25 : decode cX3_takeNumber 25 = .ok (.aload_n 0, 1) := by decide +kernel
theorem dX3_takeNumber_26 : decode cX3_takeNumber 26 = .ok (.getfield 9, 3) := by decide +kernel
theorem dX3_takeNumber_29 : decode cX3_takeNumber 29 = .ok (.invokevirtual 132, 3) := by decide +kernel
theorem dX3_takeNumber_32 : decode cX3_takeNumber 32 = .ok (.putfield 124, 3) := by decide +kernel
theorem dX3_takeNumber_35 : decode cX3_takeNumber 35 = .ok (.aload_n 0, 1) := by decide +kernel
theorem dX3_takeNumber_36 : decode cX3_takeNumber 36 = .ok (.getfield 9, 3) := by decide +kernel
theorem dX3_takeNumber_39 : decode cX3_takeNumber 39 = .ok (.invokevirtual 32, 3) := by decide +kernel
theorem dX3_takeNumber_42 : decode cX3_takeNumber 42 = .ok (.iconst 1, 1) := by decide +kernel
theorem dX3_takeNumber_43 : decode cX3_takeNumber 43 = .ok (.ireturn, 1) := by decide +kernel
theorem dX4_init_0 : decode cX4_init 0 = .ok (.aload_n 0, 1) := by decide +kernel
theorem dX4_init_1 : decode cX4_init 1 = .ok (.invokespecial 3, 3) := by decide +kernel
theorem dX4_init_4 : decode cX4_init 4 = .ok (.aload_n 0, 1) := by decide +kernel
theorem dX4_init_5 : decode cX4_init 5 = .ok (.aload_n 1, 1) := by decide +kernel
theorem dX4_init_6 : decode cX4_init 6 = .ok (.putfield 9, 3) := by decide +kernel
theorem dX4_init_9 : decode cX4_init 9 = .ok (.return_, 1) := by decide +kernel
theorem dX4_isOfKind_0 : decode cX4_isOfKind 0 = .ok (.iload_n 0, 1) := by decide +kernel
theorem dX4_isOfKind_1 : decode cX4_isOfKind 1 = .ok (.istore_n 2, 1) := by decide +kernel
theorem dX4_isOfKind_2 : decode cX4_isOfKind 2 = .ok (.iconst 0, 1) := by decide +kernel
theorem dX4_isOfKind_3 : decode cX4_isOfKind 3 = .ok (.istore_n 3, 1) := by decide +kernel
theorem dX4_isOfKind_4 : decode cX4_isOfKind 4 = .ok (.iload_n 3, 1) := by decide +kernel
theorem dX4_isOfKind_5 : decode cX4_isOfKind 5 = .ok (.bipush 7, 2) := by decide +kernel
theorem dX4_isOfKind_7 : decode cX4_isOfKind 7 = .ok (.if_icmp .ge 26, 3) := by decide +kernel
theorem dX4_isOfKind_10 : decode cX4_isOfKind 10 = .ok (.iload_n 2, 1) := by decide +kernel
theorem dX4_isOfKind_11 : decode cX4_isOfKind 11 = .ok (.ifCond .lt 22, 3) := by decide +kernel
theorem dX4_isOfKind_14 : decode cX4_isOfKind 14 = .ok (.iload_n 2, 1) := by decide +kernel
theorem dX4_isOfKind_15 : decode cX4_isOfKind 15 = .ok (.iload_n 1, 1) := by decide +kernel
theorem dX4_isOfKind_16 : decode cX4_isOfKind 16 = .ok (.if_icmp .ne 5, 3) := by decide +kernel
theorem dX4_isOfKind_19 : decode cX4_isOfKind 19 = .ok (.iconst 1, 1) := by decide +kernel
theorem dX4_isOfKind_20 : decode cX4_isOfKind 20 = .ok (.ireturn, 1) := by decide +kernel
theorem dX4_isOfKind_21 : decode cX4_isOfKind 21 = .ok (.getstatic 15, 3) := by decide +kernel
theorem dX4_isOfKind_24 : decode cX4_isOfKind 24 = .ok (.iload_n 2, 1) := by decide +kernel
theorem dX4_isOfKind_25 : decode cX4_isOfKind 25 = .ok (.iaload, 1) := by decide +kernel
theorem dX4_isOfKind_26 : decode cX4_isOfKind 26 = .ok (.istore_n 2, 1) := by decide +kernel
theorem dX4_isOfKind_27 : decode cX4_isOfKind 27 = .ok (.iinc 3 1, 3) := by decide +kernel
theorem dX4_isOfKind_30 : decode cX4_isOfKind 30 = .ok (.goto (-26), 3) := by decide +kernel
theorem dX4_isOfKind_33 : decode cX4_isOfKind 33 = .ok (.iconst 0, 1) := by decide +kernel
theorem dX4_isOfKind_34 : decode cX4_isOfKind 34 = .ok (.ireturn, 1) := by decide +kernel
theorem dX4_take_0 : decode cX4_take 0 = .ok (.aload_n 0, 1) := by decide +kernel
theorem dX4_take_1 : decode cX4_take 1 = .ok (.aload_n 0, 1) := by decide +kernel
theorem dX4_take_2 : decode cX4_take 2 = .ok (.getfield 9, 3) := by decide +kernel
theorem dX4_take_5 : decode cX4_take 5 = .ok (.getfield 19, 3) := by decide +kernel
theorem dX4_take_8 : decode cX4_take 8 = .ok (.iload_n 1, 1) := by decide +kernel
theorem dX4_take_9 : decode cX4_take 9 = .ok (.iaload, 1) := by decide +kernel
theorem dX4_take_10 : decode cX4_take 10 = .ok (.putfield 24, 3) := by decide +kernel
theorem dX4_take_13 : decode cX4_take 13 = .ok (.aload_n 0, 1) := by decide +kernel
theorem dX4_take_14 : decode cX4_take 14 = .ok (.aload_n 0, 1) := by decide +kernel
theorem dX4_take_15 : decode cX4_take 15 = .ok (.getfield 9, 3) := by decide +kernel
theorem dX4_take_18 : decode cX4_take 18 = .ok (.getfield 27, 3) := by decide +kernel
theorem dX4_take_21 : decode cX4_take 21 = .ok (.iload_n 1, 1) := by decide +kernel
theorem dX4_take_22 : decode cX4_take 22 = .ok (.iaload, 1) := by decide +kernel
theorem dX4_take_23 : decode cX4_take 23 = .ok (.putfield 30, 3) := by decide +kernel
theorem dX4_take_26 : decode cX4_take 26 = .ok (.aload_n 0, 1) := by decide +kernel
theorem dX4_take_27 : decode cX4_take 27 = .ok (.aload_n 0, 1) := by decide +kernel
theorem dX4_take_28 : decode cX4_take 28 = .ok (.getfield 9, 3) := by decide +kernel
theorem dX4_take_31 : decode cX4_take 31 = .ok (.getfield 32, 3) := by decide +kernel
theorem dX4_take_34 : decode cX4_take 34 = .ok (.iload_n 1, 1) := by decide +kernel
theorem dX4_take_35 : decode cX4_take 35 = .ok (.iaload, 1) := by decide +kernel
theorem dX4_take_36 : decode cX4_take 36 = .ok (.putfield 35, 3) := by decide +kernel
theorem dX4_take_39 : decode cX4_take 39 = .ok (.aload_n 0, 1) := by decide +kernel
theorem dX4_take_40 : decode cX4_take 40 = .ok (.aload_n 0, 1) := by decide +kernel
theorem dX4_take_41 : decode cX4_take 41 = .ok (.getfield 9, 3) := by decide +kernel
theorem dX4_take_44 : decode cX4_take 44 = .ok (.getfield 37, 3) := by decide +kernel
theorem dX4_take_47 : decode cX4_take 47 = .ok (.iload_n 1, 1) := by decide +kernel
theorem dX4_take_48 : decode cX4_take 48 = .ok (.iaload, 1) := by decide +kernel
theorem dX4_take_49 : decode cX4_take 49 = .ok (.putfield 40, 3) := by decide +kernel
theorem dX4_take_52 : decode cX4_take 52 = .ok (.return_, 1) := by decide +kernel
theorem dX4_putBack_0 : decode cX4_putBack 0 = .ok (.aload_n 0, 1) := by decide +kernel
theorem dX4_putBack_1 : decode cX4_putBack 1 = .ok (.getfield 9, 3) := by decide +kernel
theorem dX4_putBack_4 : decode cX4_putBack 4 = .ok (.getfield 27, 3) := by decide +kernel
theorem dX4_putBack_7 : decode cX4_putBack 7 = .ok (.iload_n 1, 1) := by decide +kernel
theorem dX4_putBack_8 : decode cX4_putBack 8 = .ok (.aload_n 0, 1) := by decide +kernel
theorem dX4_putBack_9 : decode cX4_putBack 9 = .ok (.getfield 30, 3) := by decide +kernel
theorem dX4_putBack_12 : decode cX4_putBack 12 = .ok (.iastore, 1) := by decide +kernel
theorem dX4_putBack_13 : decode cX4_putBack 13 = .ok (.aload_n 0, 1) := by decide +kernel
theorem dX4_putBack_14 : decode cX4_putBack 14 = .ok (.getfield 9, 3) := by decide +kernel
theorem dX4_putBack_17 : decode cX4_putBack 17 = .ok (.getfield 37, 3) := by decide +kernel
theorem dX4_putBack_20 : decode cX4_putBack 20 = .ok (.iload_n 1, 1) := by decide +kernel
theorem dX4_putBack_21 : decode cX4_putBack 21 = .ok (.aload_n 0, 1) := by decide +kernel
theorem dX4_putBack_22 : decode cX4_putBack 22 = .ok (.getfield 40, 3) := by decide +kernel
theorem dX4_putBack_25 : decode cX4_putBack 25 = .ok (.iastore, 1) := by decide +kernel
theorem dX4_putBack_26 : decode cX4_putBack 26 = .ok (.return_, 1) := by decide +kernel
set_option maxRecDepth 20000 in
theorem ggX4_isIn_X0_isCell : GoodIn wsX4_isIn wsX0_isCell := goodIn_r _ [5] (by decide +kernel) (by decide +kernel)
set_option maxRecDepth 20000 in
theorem gX4_isIn_X0_isCell : GoodIn wsX4_isIn (va_wsS RX4 42 yX0_isCell wsX0_isCell) := goodIn_app (goodIn_of _ (by decide +kernel)) ggX4_isIn_X0_isCell
theorem dX4_isIn_0 : decode cX4_isIn 0 = .ok (.aload_n 0, 1) := by decide +kernel
theorem dX4_isIn_1 : decode cX4_isIn 1 = .ok (.getfield 30, 3) := by decide +kernel
theorem dX4_isIn_4 : decode cX4_isIn 4 = .ok (.invokestatic 42, 3) := by decide +kernel
theorem dX4_isIn_7 : decode cX4_isIn 7 = .ok (.ireturn, 1) := by decide +kernel
set_option maxRecDepth 20000 in
theorem ggX4_isSeen_X4_isIn : GoodIn wsX4_isSeen wsX4_isIn := goodIn_r _ [6, 1, 7, 8, 9, 10, 14, 15, 16, 17, 18] (by decide +kernel) (by decide +kernel)
set_option maxRecDepth 20000 in
theorem gX4_isSeen_X4_isIn : GoodIn wsX4_isSeen (wsV RX4 48 RX4 yX4_isIn wsX4_isIn) := goodIn_app (goodIn_of _ (by decide +kernel)) ggX4_isSeen_X4_isIn
set_option maxRecDepth 20000 in
theorem ggX4_isSeen_X0_has : GoodIn wsX4_isSeen wsX0_has := goodIn_r _ [13] (by decide +kernel) (by decide +kernel)
set_option maxRecDepth 20000 in
theorem gX4_isSeen_X0_has : GoodIn wsX4_isSeen (va_wsS RX4 52 yX0_has wsX0_has) := goodIn_app (goodIn_of _ (by decide +kernel)) ggX4_isSeen_X0_has
theorem dX4_isSeen_0 : decode cX4_isSeen 0 = .ok (.aload_n 0, 1) := by decide +kernel
theorem dX4_isSeen_1 : decode cX4_isSeen 1 = .ok (.invokevirtual 48, 3) := by decide +kernel
theorem dX4_isSeen_4 : decode cX4_isSeen 4 = .ok (.ifCond .eq 18, 3) := by decide +kernel
theorem dX4_isSeen_7 : decode cX4_isSeen 7 = .ok (.lload_n 1, 1) := by decide +kernel
theorem dX4_isSeen_8 : decode cX4_isSeen 8 = .ok (.aload_n 0, 1) := by decide +kernel
theorem dX4_isSeen_9 : decode cX4_isSeen 9 = .ok (.getfield 30, 3) := by decide +kernel
theorem dX4_isSeen_12 : decode cX4_isSeen 12 = .ok (.invokestatic 52, 3) := by decide +kernel
theorem dX4_isSeen_15 : decode cX4_isSeen 15 = .ok (.ifCond .eq 7, 3) := by decide +kernel
theorem dX4_isSeen_18 : decode cX4_isSeen 18 = .ok (.iconst 1, 1) := by decide +kernel
theorem dX4_isSeen_19 : decode cX4_isSeen 19 = .ok (.goto 4, 3) := by decide +kernel
theorem dX4_isSeen_22 : decode cX4_isSeen 22 = .ok (.iconst 0, 1) := by decide +kernel
theorem dX4_isSeen_23 : decode cX4_isSeen 23 = .ok (.ireturn, 1) := by decide +kernel
set_option maxRecDepth 20000 in
theorem ggX4_pass_X4_isIn : GoodIn wsX4_pass wsX4_isIn := goodIn_r _ [13, 2, 14, 15, 16, 17, 59, 60, 61, 62, 63] (by decide +kernel) (by decide +kernel)
set_option maxRecDepth 20000 in
theorem gX4_pass_X4_isIn : GoodIn wsX4_pass (wsV RX4 48 RX4 yX4_isIn wsX4_isIn) := goodIn_app (goodIn_of _ (by decide +kernel)) ggX4_pass_X4_isIn
set_option maxRecDepth 20000 in
theorem ggX4_pass_X0_columnOf : GoodIn wsX4_pass wsX0_columnOf := goodIn_r _ [20] (by decide +kernel) (by decide +kernel)
set_option maxRecDepth 20000 in
theorem gX4_pass_X0_columnOf : GoodIn wsX4_pass (va_wsS RX4 56 yX0_columnOf wsX0_columnOf) := goodIn_app (goodIn_of _ (by decide +kernel)) ggX4_pass_X0_columnOf
set_option maxRecDepth 20000 in
theorem ggX4_pass_X0_columnOfSide : GoodIn wsX4_pass wsX0_columnOfSide := goodIn_r _ [23] (by decide +kernel) (by decide +kernel)
set_option maxRecDepth 20000 in
theorem gX4_pass_X0_columnOfSide : GoodIn wsX4_pass (va_wsS RX4 60 yX0_columnOfSide wsX0_columnOfSide) := goodIn_app (goodIn_of _ (by decide +kernel)) ggX4_pass_X0_columnOfSide
set_option maxRecDepth 20000 in
theorem ggX4_pass_X4_target : GoodIn wsX4_pass wsX4_target := goodIn_r _ [27, 2, 1, 3, 9, 10, 11, 12, 13, 14, 15, 16, 17, 28, 29, 30, 31, 21, 22, 23, 32, 33, 34, 35, 36, 37, 38, 39, 40, 41, 42, 43, 44, 45, 46, 47, 48, 19, 20, 49, 50, 51, 52, 53, 54, 55, 56, 57, 58, 18, 59, 60, 61, 62, 63, 64, 65, 66, 67, 68, 69, 70, 71, 72, 73, 74, 75, 76, 77] (by decide +kernel) (by decide +kernel)
set_option maxRecDepth 20000 in
theorem gX4_pass_X4_target : GoodIn wsX4_pass (wsV RX4 63 RX4 yX4_target wsX4_target) := goodIn_app (goodIn_of _ (by decide +kernel)) ggX4_pass_X4_target
theorem dX4_pass_0 : decode cX4_pass 0 = .ok (.aload_n 0, 1) := by decide +kernel
theorem dX4_pass_1 : decode cX4_pass 1 = .ok (.invokevirtual 48, 3) := by decide +kernel
theorem dX4_pass_4 : decode cX4_pass 4 = .ok (.ifCond .ne 4, 3) := by decide +kernel
theorem dX4_pass_7 : decode cX4_pass 7 = .ok (.return_, 1) := by decide +kernel
theorem dX4_pass_8 : decode cX4_pass 8 = .ok (.aload_n 0, 1) := by decide +kernel
theorem dX4_pass_9 : decode cX4_pass 9 = .ok (.getfield 24, 3) := by decide +kernel
theorem dX4_pass_12 : decode cX4_pass 12 = .ok (.iconst 4, 1) := by decide +kernel
theorem dX4_pass_13 : decode cX4_pass 13 = .ok (.if_icmp .eq 32, 3) := by decide +kernel
theorem dX4_pass_16 : decode cX4_pass 16 = .ok (.aload_n 0, 1) := by decide +kernel
theorem dX4_pass_17 : decode cX4_pass 17 = .ok (.getfield 30, 3) := by decide +kernel
theorem dX4_pass_20 : decode cX4_pass 20 = .ok (.invokestatic 56, 3) := by decide +kernel
theorem dX4_pass_23 : decode cX4_pass 23 = .ok (.aload_n 0, 1) := by decide +kernel
theorem dX4_pass_24 : decode cX4_pass 24 = .ok (.getfield 35, 3) := by decide +kernel
theorem dX4_pass_27 : decode cX4_pass 27 = .ok (.invokestatic 60, 3) := by decide +kernel
theorem dX4_pass_30 : decode cX4_pass 30 = .ok (.if_icmp .ne 15, 3) := by decide +kernel
theorem dX4_pass_33 : decode cX4_pass 33 = .ok (.aload_n 0, 1) := by decide +kernel
theorem dX4_pass_34 : decode cX4_pass 34 = .ok (.bipush 100, 2) := by decide +kernel
theorem dX4_pass_36 : decode cX4_pass 36 = .ok (.aload_n 0, 1) := by decide +kernel
theorem dX4_pass_37 : decode cX4_pass 37 = .ok (.getfield 35, 3) := by decide +kernel
theorem dX4_pass_40 : decode cX4_pass 40 = .ok (.iadd, 1) := by decide +kernel
theorem dX4_pass_41 : decode cX4_pass 41 = .ok (.putfield 30, 3) := by decide +kernel
theorem dX4_pass_44 : decode cX4_pass 44 = .ok (.return_, 1) := by decide +kernel
theorem dX4_pass_45 : decode cX4_pass 45 = .ok (.aload_n 0, 1) := by decide +kernel
theorem dX4_pass_46 : decode cX4_pass 46 = .ok (.aload_n 0, 1) := by decide +kernel
theorem dX4_pass_47 : decode cX4_pass 47 = .ok (.lload_n 1, 1) := by decide +kernel
theorem dX4_pass_48 : decode cX4_pass 48 = .ok (.invokevirtual 63, 3) := by decide +kernel
theorem dX4_pass_51 : decode cX4_pass 51 = .ok (.putfield 30, 3) := by decide +kernel
theorem dX4_pass_54 : decode cX4_pass 54 = .ok (.aload_n 0, 1) := by decide +kernel
theorem dX4_pass_55 : decode cX4_pass 55 = .ok (.bipush 99, 2) := by decide +kernel
theorem dX4_pass_57 : decode cX4_pass 57 = .ok (.aload_n 0, 1) := by decide +kernel
theorem dX4_pass_58 : decode cX4_pass 58 = .ok (.getfield 40, 3) := by decide +kernel
theorem dX4_pass_61 : decode cX4_pass 61 = .ok (.iconst 1, 1) := by decide +kernel
theorem dX4_pass_62 : decode cX4_pass 62 = .ok (.iadd, 1) := by decide +kernel
theorem dX4_pass_63 : decode cX4_pass 63 = .ok (.invokestatic 67, 3) := by decide +kernel
theorem dX4_pass_66 : decode cX4_pass 66 = .ok (.putfield 40, 3) := by decide +kernel
theorem dX4_pass_69 : decode cX4_pass 69 = .ok (.return_, 1) := by decide +kernel
set_option maxRecDepth 20000 in
theorem ggX4_target_X4_isIn : GoodIn wsX4_target wsX4_isIn := goodIn_r _ [8, 1, 9, 10, 11, 12, 50, 51, 52, 53, 54] (by decide +kernel) (by decide +kernel)
set_option maxRecDepth 20000 in
theorem gX4_target_X4_isIn : GoodIn wsX4_target (wsV RX4 48 RX4 yX4_isIn wsX4_isIn) := goodIn_app (goodIn_of _ (by decide +kernel)) ggX4_target_X4_isIn
set_option maxRecDepth 20000 in
theorem ggX4_target_X4_spyTarget : GoodIn wsX4_target wsX4_spyTarget := goodIn_r _ [16, 1, 3, 17, 18, 11, 19, 20, 21, 7, 22, 23, 24, 25, 50, 51, 52, 53, 54] (by decide +kernel) (by decide +kernel)
set_option maxRecDepth 20000 in
theorem gX4_target_X4_spyTarget : GoodIn wsX4_target (wsV RX4 73 RX4 yX4_spyTarget wsX4_spyTarget) := goodIn_app (goodIn_of _ (by decide +kernel)) ggX4_target_X4_spyTarget
set_option maxRecDepth 20000 in
theorem ggX4_target_X4_generalTarget : GoodIn wsX4_target wsX4_generalTarget := goodIn_r _ [29, 1, 13, 14, 15, 7, 16, 3, 17, 18, 11, 19, 20, 21, 22, 23, 24, 25, 30, 31, 32, 33, 34, 35, 36, 37, 38, 50, 51, 52, 53, 54] (by decide +kernel) (by decide +kernel)
set_option maxRecDepth 20000 in
theorem gX4_target_X4_generalTarget : GoodIn wsX4_target (wsV RX4 76 RX4 yX4_generalTarget wsX4_generalTarget) := goodIn_app (goodIn_of _ (by decide +kernel)) ggX4_target_X4_generalTarget
set_option maxRecDepth 20000 in
theorem ggX4_target_X4_floaterTarget : GoodIn wsX4_target wsX4_floaterTarget := goodIn_r _ [42, 1, 43, 44, 30, 31, 11, 32, 33, 34, 35, 36, 37, 38, 50, 51, 52, 53, 54, 55, 56, 57, 58, 59, 60, 61, 62, 63, 64, 65, 66, 67, 68] (by decide +kernel) (by decide +kernel)
set_option maxRecDepth 20000 in
theorem gX4_target_X4_floaterTarget : GoodIn wsX4_target (wsV RX4 79 RX4 yX4_floaterTarget wsX4_floaterTarget) := goodIn_app (goodIn_of _ (by decide +kernel)) ggX4_target_X4_floaterTarget
set_option maxRecDepth 20000 in
theorem ggX4_target_X4_loverTarget : GoodIn wsX4_target wsX4_loverTarget := goodIn_r _ [48, 43, 44, 1, 39, 40, 41, 7, 42, 30, 31, 11, 32, 33, 34, 35, 36, 37, 38, 49, 20, 21, 22, 50, 51, 52, 53, 54, 55, 56, 57, 58, 59, 60, 61, 62, 63, 64, 65, 66, 67, 68] (by decide +kernel) (by decide +kernel)
set_option maxRecDepth 20000 in
theorem gX4_target_X4_loverTarget : GoodIn wsX4_target (wsV RX4 83 RX4 yX4_loverTarget wsX4_loverTarget) := goodIn_app (goodIn_of _ (by decide +kernel)) ggX4_target_X4_loverTarget
set_option maxRecDepth 20000 in
theorem ggX4_target_X0_columnOfSide : GoodIn wsX4_target wsX0_columnOfSide := goodIn_r _ [19] (by decide +kernel) (by decide +kernel)
set_option maxRecDepth 20000 in
theorem gX4_target_X0_columnOfSide : GoodIn wsX4_target (va_wsS RX4 60 yX0_columnOfSide wsX0_columnOfSide) := goodIn_app (goodIn_of _ (by decide +kernel)) ggX4_target_X0_columnOfSide
set_option maxRecDepth 20000 in
theorem ggX4_target_X4_nearer : GoodIn wsX4_target wsX4_nearer := goodIn_r _ [22] (by decide +kernel) (by decide +kernel)
set_option maxRecDepth 20000 in
theorem gX4_target_X4_nearer : GoodIn wsX4_target (va_wsS RX4 86 yX4_nearer wsX4_nearer) := goodIn_app (goodIn_of _ (by decide +kernel)) ggX4_target_X4_nearer
theorem dX4_target_0 : decode cX4_target 0 = .ok (.aload_n 0, 1) := by decide +kernel
theorem dX4_target_1 : decode cX4_target 1 = .ok (.invokevirtual 48, 3) := by decide +kernel
theorem dX4_target_4 : decode cX4_target 4 = .ok (.ifCond .ne 8, 3) := by decide +kernel
theorem dX4_target_7 : decode cX4_target 7 = .ok (.aload_n 0, 1) := by decide +kernel
theorem dX4_target_8 : decode cX4_target 8 = .ok (.getfield 30, 3) := by decide +kernel
theorem dX4_target_11 : decode cX4_target 11 = .ok (.ireturn, 1) := by decide +kernel
theorem dX4_target_12 : decode cX4_target 12 = .ok (.aload_n 0, 1) := by decide +kernel
theorem dX4_target_13 : decode cX4_target 13 = .ok (.getfield 24, 3) := by decide +kernel
theorem dX4_target_16 : decode cX4_target 16 = .ok (.tableswitch 87 1 6 #[40, 52, 57, 57, 62, 46], 40) := by decide +kernel
theorem dX4_target_56 : decode cX4_target 56 = .ok (.aload_n 0, 1) := by decide +kernel
theorem dX4_target_57 : decode cX4_target 57 = .ok (.lload_n 1, 1) := by decide +kernel
theorem dX4_target_58 : decode cX4_target 58 = .ok (.invokevirtual 73, 3) := by decide +kernel
theorem dX4_target_61 : decode cX4_target 61 = .ok (.ireturn, 1) := by decide +kernel
theorem dX4_target_62 : decode cX4_target 62 = .ok (.aload_n 0, 1) := by decide +kernel
theorem dX4_target_63 : decode cX4_target 63 = .ok (.lload_n 1, 1) := by decide +kernel
theorem dX4_target_64 : decode cX4_target 64 = .ok (.invokevirtual 76, 3) := by decide +kernel
theorem dX4_target_67 : decode cX4_target 67 = .ok (.ireturn, 1) := by decide +kernel
theorem dX4_target_68 : decode cX4_target 68 = .ok (.aload_n 0, 1) := by decide +kernel
theorem dX4_target_69 : decode cX4_target 69 = .ok (.invokevirtual 79, 3) := by decide +kernel
theorem dX4_target_72 : decode cX4_target 72 = .ok (.ireturn, 1) := by decide +kernel
theorem dX4_target_73 : decode cX4_target 73 = .ok (.aload_n 0, 1) := by decide +kernel
theorem dX4_target_74 : decode cX4_target 74 = .ok (.invokevirtual 83, 3) := by decide +kernel
theorem dX4_target_77 : decode cX4_target 77 = .ok (.ireturn, 1) := by decide +kernel
theorem dX4_target_78 : decode cX4_target 78 = .ok (.aload_n 0, 1) := by decide +kernel
theorem dX4_target_79 : decode cX4_target 79 = .ok (.getfield 30, 3) := by decide +kernel
theorem dX4_target_82 : decode cX4_target 82 = .ok (.aload_n 0, 1) := by decide +kernel
theorem dX4_target_83 : decode cX4_target 83 = .ok (.getfield 35, 3) := by decide +kernel
theorem dX4_target_86 : decode cX4_target 86 = .ok (.invokestatic 60, 3) := by decide +kernel
theorem dX4_target_89 : decode cX4_target 89 = .ok (.invokestatic 86, 3) := by decide +kernel
theorem dX4_target_92 : decode cX4_target 92 = .ok (.aload_n 0, 1) := by decide +kernel
theorem dX4_target_93 : decode cX4_target 93 = .ok (.getfield 35, 3) := by decide +kernel
theorem dX4_target_96 : decode cX4_target 96 = .ok (.invokestatic 60, 3) := by decide +kernel
theorem dX4_target_99 : decode cX4_target 99 = .ok (.invokestatic 86, 3) := by decide +kernel
theorem dX4_target_102 : decode cX4_target 102 = .ok (.ireturn, 1) := by decide +kernel
theorem dX4_target_103 : decode cX4_target 103 = .ok (.aload_n 0, 1) := by decide +kernel
theorem dX4_target_104 : decode cX4_target 104 = .ok (.getfield 30, 3) := by decide +kernel
theorem dX4_target_107 : decode cX4_target 107 = .ok (.aload_n 0, 1) := by decide +kernel
theorem dX4_target_108 : decode cX4_target 108 = .ok (.getfield 35, 3) := by decide +kernel
theorem dX4_target_111 : decode cX4_target 111 = .ok (.invokestatic 60, 3) := by decide +kernel
theorem dX4_target_114 : decode cX4_target 114 = .ok (.invokestatic 86, 3) := by decide +kernel
theorem dX4_target_117 : decode cX4_target 117 = .ok (.ireturn, 1) := by decide +kernel
set_option maxRecDepth 20000 in
theorem ggX4_spyTarget_X0_columnOfSide : GoodIn wsX4_spyTarget wsX0_columnOfSide := goodIn_r _ [6] (by decide +kernel) (by decide +kernel)
set_option maxRecDepth 20000 in
theorem gX4_spyTarget_X0_columnOfSide : GoodIn wsX4_spyTarget (va_wsS RX4 60 yX0_columnOfSide wsX0_columnOfSide) := goodIn_app (goodIn_of _ (by decide +kernel)) ggX4_spyTarget_X0_columnOfSide
set_option maxRecDepth 20000 in
theorem ggX4_spyTarget_X4_nearer : GoodIn wsX4_spyTarget wsX4_nearer := goodIn_r _ [10] (by decide +kernel) (by decide +kernel)
set_option maxRecDepth 20000 in
theorem gX4_spyTarget_X4_nearer : GoodIn wsX4_spyTarget (va_wsS RX4 86 yX4_nearer wsX4_nearer) := goodIn_app (goodIn_of _ (by decide +kernel)) ggX4_spyTarget_X4_nearer
set_option maxRecDepth 20000 in
theorem ggX4_spyTarget_X0_has : GoodIn wsX4_spyTarget wsX0_has := goodIn_r _ [13] (by decide +kernel) (by decide +kernel)
set_option maxRecDepth 20000 in
theorem gX4_spyTarget_X0_has : GoodIn wsX4_spyTarget (va_wsS RX4 52 yX0_has wsX0_has) := goodIn_app (goodIn_of _ (by decide +kernel)) ggX4_spyTarget_X0_has
theorem dX4_spyTarget_0 : decode cX4_spyTarget 0 = .ok (.aload_n 0, 1) := by decide +kernel
theorem dX4_spyTarget_1 : decode cX4_spyTarget 1 = .ok (.getfield 30, 3) := by decide +kernel
theorem dX4_spyTarget_4 : decode cX4_spyTarget 4 = .ok (.aload_n 0, 1) := by decide +kernel
theorem dX4_spyTarget_5 : decode cX4_spyTarget 5 = .ok (.getfield 35, 3) := by decide +kernel
theorem dX4_spyTarget_8 : decode cX4_spyTarget 8 = .ok (.invokestatic 60, 3) := by decide +kernel
theorem dX4_spyTarget_11 : decode cX4_spyTarget 11 = .ok (.invokestatic 86, 3) := by decide +kernel
theorem dX4_spyTarget_14 : decode cX4_spyTarget 14 = .ok (.istore_n 3, 1) := by decide +kernel
theorem dX4_spyTarget_15 : decode cX4_spyTarget 15 = .ok (.lload_n 1, 1) := by decide +kernel
theorem dX4_spyTarget_16 : decode cX4_spyTarget 16 = .ok (.iload_n 3, 1) := by decide +kernel
theorem dX4_spyTarget_17 : decode cX4_spyTarget 17 = .ok (.invokestatic 52, 3) := by decide +kernel
theorem dX4_spyTarget_20 : decode cX4_spyTarget 20 = .ok (.ifCond .eq 10, 3) := by decide +kernel
theorem dX4_spyTarget_23 : decode cX4_spyTarget 23 = .ok (.aload_n 0, 1) := by decide +kernel
theorem dX4_spyTarget_24 : decode cX4_spyTarget 24 = .ok (.getfield 30, 3) := by decide +kernel
theorem dX4_spyTarget_27 : decode cX4_spyTarget 27 = .ok (.goto 4, 3) := by decide +kernel
theorem dX4_spyTarget_30 : decode cX4_spyTarget 30 = .ok (.iload_n 3, 1) := by decide +kernel
theorem dX4_spyTarget_31 : decode cX4_spyTarget 31 = .ok (.ireturn, 1) := by decide +kernel
set_option maxRecDepth 20000 in
theorem ggX4_generalTarget_X4_spyTarget : GoodIn wsX4_generalTarget wsX4_spyTarget := goodIn_r _ [6, 1, 7, 8, 9, 10, 11, 12, 13, 5, 14, 15, 16, 17, 27, 28, 29, 30, 31] (by decide +kernel) (by decide +kernel)
set_option maxRecDepth 20000 in
theorem gX4_generalTarget_X4_spyTarget : GoodIn wsX4_generalTarget (wsV RX4 73 RX4 yX4_spyTarget wsX4_spyTarget) := goodIn_app (goodIn_of _ (by decide +kernel)) ggX4_generalTarget_X4_spyTarget
set_option maxRecDepth 20000 in
theorem ggX4_generalTarget_X0_beside : GoodIn wsX4_generalTarget wsX0_beside := goodIn_r _ [20, 21, 22, 10, 23, 24, 25, 26] (by decide +kernel) (by decide +kernel)
set_option maxRecDepth 20000 in
theorem gX4_generalTarget_X0_beside : GoodIn wsX4_generalTarget (va_wsS RX4 89 yX0_beside wsX0_beside) := goodIn_app (goodIn_of _ (by decide +kernel)) ggX4_generalTarget_X0_beside
set_option maxRecDepth 20000 in
theorem ggX4_generalTarget_X0_has : GoodIn wsX4_generalTarget wsX0_has := goodIn_r _ [17] (by decide +kernel) (by decide +kernel)
set_option maxRecDepth 20000 in
theorem gX4_generalTarget_X0_has : GoodIn wsX4_generalTarget (va_wsS RX4 52 yX0_has wsX0_has) := goodIn_app (goodIn_of _ (by decide +kernel)) ggX4_generalTarget_X0_has
theorem dX4_generalTarget_0 : decode cX4_generalTarget 0 = .ok (.aload_n 0, 1) := by decide +kernel
theorem dX4_generalTarget_1 : decode cX4_generalTarget 1 = .ok (.lload_n 1, 1) := by decide +kernel
theorem dX4_generalTarget_2 : decode cX4_generalTarget 2 = .ok (.invokevirtual 73, 3) := by decide +kernel
theorem dX4_generalTarget_5 : decode cX4_generalTarget 5 = .ok (.istore_n 3, 1) := by decide +kernel
theorem dX4_generalTarget_6 : decode cX4_generalTarget 6 = .ok (.iload_n 3, 1) := by decide +kernel
theorem dX4_generalTarget_7 : decode cX4_generalTarget 7 = .ok (.aload_n 0, 1) := by decide +kernel
theorem dX4_generalTarget_8 : decode cX4_generalTarget 8 = .ok (.getfield 30, 3) := by decide +kernel
theorem dX4_generalTarget_11 : decode cX4_generalTarget 11 = .ok (.if_icmp .eq 5, 3) := by decide +kernel
theorem dX4_generalTarget_14 : decode cX4_generalTarget 14 = .ok (.iload_n 3, 1) := by decide +kernel
theorem dX4_generalTarget_15 : decode cX4_generalTarget 15 = .ok (.ireturn, 1) := by decide +kernel
theorem dX4_generalTarget_16 : decode cX4_generalTarget 16 = .ok (.aload_n 0, 1) := by decide +kernel
theorem dX4_generalTarget_17 : decode cX4_generalTarget 17 = .ok (.getfield 30, 3) := by decide +kernel
theorem dX4_generalTarget_20 : decode cX4_generalTarget 20 = .ok (.iconst 3, 1) := by decide +kernel
theorem dX4_generalTarget_21 : decode cX4_generalTarget 21 = .ok (.invokestatic 89, 3) := by decide +kernel
theorem dX4_generalTarget_24 : decode cX4_generalTarget 24 = .ok (.istore 4, 2) := by decide +kernel
theorem dX4_generalTarget_26 : decode cX4_generalTarget 26 = .ok (.iload 4, 2) := by decide +kernel
theorem dX4_generalTarget_28 : decode cX4_generalTarget 28 = .ok (.ifCond .lt 12, 3) := by decide +kernel
theorem dX4_generalTarget_31 : decode cX4_generalTarget 31 = .ok (.lload_n 1, 1) := by decide +kernel
theorem dX4_generalTarget_32 : decode cX4_generalTarget 32 = .ok (.iload 4, 2) := by decide +kernel
theorem dX4_generalTarget_34 : decode cX4_generalTarget 34 = .ok (.invokestatic 52, 3) := by decide +kernel
theorem dX4_generalTarget_37 : decode cX4_generalTarget 37 = .ok (.ifCond .eq 10, 3) := by decide +kernel
theorem dX4_generalTarget_40 : decode cX4_generalTarget 40 = .ok (.aload_n 0, 1) := by decide +kernel
theorem dX4_generalTarget_41 : decode cX4_generalTarget 41 = .ok (.getfield 30, 3) := by decide +kernel
theorem dX4_generalTarget_44 : decode cX4_generalTarget 44 = .ok (.goto 5, 3) := by decide +kernel
theorem dX4_generalTarget_47 : decode cX4_generalTarget 47 = .ok (.iload 4, 2) := by decide +kernel
theorem dX4_generalTarget_49 : decode cX4_generalTarget 49 = .ok (.ireturn, 1) := by decide +kernel
set_option maxRecDepth 20000 in
theorem ggX4_floaterTarget_X0_beside : GoodIn wsX4_floaterTarget wsX0_beside := goodIn_r _ [7, 8, 9, 6, 10, 11, 12, 13] (by decide +kernel) (by decide +kernel)
set_option maxRecDepth 20000 in
theorem gX4_floaterTarget_X0_beside : GoodIn wsX4_floaterTarget (va_wsS RX4 89 yX0_beside wsX0_beside) := goodIn_app (goodIn_of _ (by decide +kernel)) ggX4_floaterTarget_X0_beside
theorem dX4_floaterTarget_0 : decode cX4_floaterTarget 0 = .ok (.aload_n 0, 1) := by decide +kernel
theorem dX4_floaterTarget_1 : decode cX4_floaterTarget 1 = .ok (.getfield 30, 3) := by decide +kernel
theorem dX4_floaterTarget_4 : decode cX4_floaterTarget 4 = .ok (.aload_n 0, 1) := by decide +kernel
theorem dX4_floaterTarget_5 : decode cX4_floaterTarget 5 = .ok (.getfield 9, 3) := by decide +kernel
theorem dX4_floaterTarget_8 : decode cX4_floaterTarget 8 = .ok (.getfield 92, 3) := by decide +kernel
theorem dX4_floaterTarget_11 : decode cX4_floaterTarget 11 = .ok (.aload_n 0, 1) := by decide +kernel
theorem dX4_floaterTarget_12 : decode cX4_floaterTarget 12 = .ok (.getfield 30, 3) := by decide +kernel
theorem dX4_floaterTarget_15 : decode cX4_floaterTarget 15 = .ok (.iaload, 1) := by decide +kernel
theorem dX4_floaterTarget_16 : decode cX4_floaterTarget 16 = .ok (.invokestatic 89, 3) := by decide +kernel
theorem dX4_floaterTarget_19 : decode cX4_floaterTarget 19 = .ok (.istore_n 1, 1) := by decide +kernel
theorem dX4_floaterTarget_20 : decode cX4_floaterTarget 20 = .ok (.iload_n 1, 1) := by decide +kernel
theorem dX4_floaterTarget_21 : decode cX4_floaterTarget 21 = .ok (.ifCond .ge 10, 3) := by decide +kernel
theorem dX4_floaterTarget_24 : decode cX4_floaterTarget 24 = .ok (.aload_n 0, 1) := by decide +kernel
theorem dX4_floaterTarget_25 : decode cX4_floaterTarget 25 = .ok (.getfield 30, 3) := by decide +kernel
theorem dX4_floaterTarget_28 : decode cX4_floaterTarget 28 = .ok (.goto 4, 3) := by decide +kernel
theorem dX4_floaterTarget_31 : decode cX4_floaterTarget 31 = .ok (.iload_n 1, 1) := by decide +kernel
theorem dX4_floaterTarget_32 : decode cX4_floaterTarget 32 = .ok (.ireturn, 1) := by decide +kernel
set_option maxRecDepth 20000 in
theorem ggX4_loverTarget_X4_floaterTarget : GoodIn wsX4_loverTarget wsX4_floaterTarget := goodIn_r _ [8, 3, 1, 2, 9, 10, 11, 12, 13, 14, 15, 16, 17, 18, 23, 24, 25, 26, 27, 28, 29, 30, 31, 32, 33, 34, 35, 36, 37, 38, 39, 40, 41] (by decide +kernel) (by decide +kernel)
set_option maxRecDepth 20000 in
theorem gX4_loverTarget_X4_floaterTarget : GoodIn wsX4_loverTarget (wsV RX4 79 RX4 yX4_floaterTarget wsX4_floaterTarget) := goodIn_app (goodIn_of _ (by decide +kernel)) ggX4_loverTarget_X4_floaterTarget
set_option maxRecDepth 20000 in
theorem ggX4_loverTarget_X0_columnOf : GoodIn wsX4_loverTarget wsX0_columnOf := goodIn_r _ [18] (by decide +kernel) (by decide +kernel)
set_option maxRecDepth 20000 in
theorem gX4_loverTarget_X0_columnOf : GoodIn wsX4_loverTarget (va_wsS RX4 56 yX0_columnOf wsX0_columnOf) := goodIn_app (goodIn_of _ (by decide +kernel)) ggX4_loverTarget_X0_columnOf
set_option maxRecDepth 20000 in
theorem ggX4_loverTarget_X4_nearer : GoodIn wsX4_loverTarget wsX4_nearer := goodIn_r _ [22] (by decide +kernel) (by decide +kernel)
set_option maxRecDepth 20000 in
theorem gX4_loverTarget_X4_nearer : GoodIn wsX4_loverTarget (va_wsS RX4 86 yX4_nearer wsX4_nearer) := goodIn_app (goodIn_of _ (by decide +kernel)) ggX4_loverTarget_X4_nearer
theorem dX4_loverTarget_0 : decode cX4_loverTarget 0 = .ok (.aload_n 0, 1) := by decide +kernel
theorem dX4_loverTarget_1 : decode cX4_loverTarget 1 = .ok (.getfield 9, 3) := by decide +kernel
theorem dX4_loverTarget_4 : decode cX4_loverTarget 4 = .ok (.getfield 92, 3) := by decide +kernel
theorem dX4_loverTarget_7 : decode cX4_loverTarget 7 = .ok (.aload_n 0, 1) := by decide +kernel
theorem dX4_loverTarget_8 : decode cX4_loverTarget 8 = .ok (.getfield 30, 3) := by decide +kernel
theorem dX4_loverTarget_11 : decode cX4_loverTarget 11 = .ok (.iaload, 1) := by decide +kernel
theorem dX4_loverTarget_12 : decode cX4_loverTarget 12 = .ok (.ifCond .eq 8, 3) := by decide +kernel
theorem dX4_loverTarget_15 : decode cX4_loverTarget 15 = .ok (.aload_n 0, 1) := by decide +kernel
theorem dX4_loverTarget_16 : decode cX4_loverTarget 16 = .ok (.invokevirtual 79, 3) := by decide +kernel
theorem dX4_loverTarget_19 : decode cX4_loverTarget 19 = .ok (.ireturn, 1) := by decide +kernel
theorem dX4_loverTarget_20 : decode cX4_loverTarget 20 = .ok (.aload_n 0, 1) := by decide +kernel
theorem dX4_loverTarget_21 : decode cX4_loverTarget 21 = .ok (.getfield 30, 3) := by decide +kernel
theorem dX4_loverTarget_24 : decode cX4_loverTarget 24 = .ok (.aload_n 0, 1) := by decide +kernel
theorem dX4_loverTarget_25 : decode cX4_loverTarget 25 = .ok (.getfield 30, 3) := by decide +kernel
theorem dX4_loverTarget_28 : decode cX4_loverTarget 28 = .ok (.invokestatic 56, 3) := by decide +kernel
theorem dX4_loverTarget_31 : decode cX4_loverTarget 31 = .ok (.iconst 4, 1) := by decide +kernel
theorem dX4_loverTarget_32 : decode cX4_loverTarget 32 = .ok (.if_icmp .ge 7, 3) := by decide +kernel
theorem dX4_loverTarget_35 : decode cX4_loverTarget 35 = .ok (.iconst 3, 1) := by decide +kernel
theorem dX4_loverTarget_36 : decode cX4_loverTarget 36 = .ok (.goto 4, 3) := by decide +kernel
theorem dX4_loverTarget_39 : decode cX4_loverTarget 39 = .ok (.iconst 4, 1) := by decide +kernel
theorem dX4_loverTarget_40 : decode cX4_loverTarget 40 = .ok (.invokestatic 86, 3) := by decide +kernel
theorem dX4_loverTarget_43 : decode cX4_loverTarget 43 = .ok (.ireturn, 1) := by decide +kernel
theorem dX4_nearer_0 : decode cX4_nearer 0 = .ok (.iload_n 0, 1) := by decide +kernel
theorem dX4_nearer_1 : decode cX4_nearer 1 = .ok (.bipush 8, 2) := by decide +kernel
theorem dX4_nearer_3 : decode cX4_nearer 3 = .ok (.irem, 1) := by decide +kernel
theorem dX4_nearer_4 : decode cX4_nearer 4 = .ok (.istore_n 2, 1) := by decide +kernel
theorem dX4_nearer_5 : decode cX4_nearer 5 = .ok (.iload_n 2, 1) := by decide +kernel
theorem dX4_nearer_6 : decode cX4_nearer 6 = .ok (.iload_n 1, 1) := by decide +kernel
theorem dX4_nearer_7 : decode cX4_nearer 7 = .ok (.if_icmp .ne 5, 3) := by decide +kernel
theorem dX4_nearer_10 : decode cX4_nearer 10 = .ok (.iload_n 0, 1) := by decide +kernel
theorem dX4_nearer_11 : decode cX4_nearer 11 = .ok (.ireturn, 1) := by decide +kernel
theorem dX4_nearer_12 : decode cX4_nearer 12 = .ok (.iload_n 2, 1) := by decide +kernel
theorem dX4_nearer_13 : decode cX4_nearer 13 = .ok (.iload_n 1, 1) := by decide +kernel
theorem dX4_nearer_14 : decode cX4_nearer 14 = .ok (.if_icmp .ge 9, 3) := by decide +kernel
theorem dX4_nearer_17 : decode cX4_nearer 17 = .ok (.iload_n 0, 1) := by decide +kernel
theorem dX4_nearer_18 : decode cX4_nearer 18 = .ok (.iconst 1, 1) := by decide +kernel
theorem dX4_nearer_19 : decode cX4_nearer 19 = .ok (.iadd, 1) := by decide +kernel
theorem dX4_nearer_20 : decode cX4_nearer 20 = .ok (.goto 6, 3) := by decide +kernel
theorem dX4_nearer_23 : decode cX4_nearer 23 = .ok (.iload_n 0, 1) := by decide +kernel
theorem dX4_nearer_24 : decode cX4_nearer 24 = .ok (.iconst 1, 1) := by decide +kernel
theorem dX4_nearer_25 : decode cX4_nearer 25 = .ok (.isub, 1) := by decide +kernel
theorem dX4_nearer_26 : decode cX4_nearer 26 = .ok (.ireturn, 1) := by decide +kernel
set_option maxRecDepth 20000 in
theorem ggX4_minutesTillOut_X4_isIn : GoodIn wsX4_minutesTillOut wsX4_isIn := goodIn_r _ [5, 6, 7, 8, 9, 10, 63, 64, 65, 66, 67] (by decide +kernel) (by decide +kernel)
set_option maxRecDepth 20000 in
theorem gX4_minutesTillOut_X4_isIn : GoodIn wsX4_minutesTillOut (wsV RX4 48 RX4 yX4_isIn wsX4_isIn) := goodIn_app (goodIn_of _ (by decide +kernel)) ggX4_minutesTillOut_X4_isIn
set_option maxRecDepth 20000 in
theorem ggX4_minutesTillOut_X4_pass : GoodIn wsX4_minutesTillOut wsX4_pass := goodIn_r _ [14, 15, 6, 16, 17, 18, 19, 20, 21, 1, 2, 3, 4, 5, 7, 8, 9, 10, 22, 23, 24, 25, 26, 27, 28, 29, 30, 31, 32, 33, 34, 35, 36, 37, 38, 39, 40, 41, 42, 43, 44, 45, 46, 47, 48, 49, 50, 51, 52, 53, 54, 55, 56, 57, 58, 59, 60, 61, 62, 63, 64, 65, 66, 67, 68, 69, 70, 71, 72, 73, 74, 75, 76, 77, 78, 79, 80, 81] (by decide +kernel) (by decide +kernel)
set_option maxRecDepth 20000 in
theorem gX4_minutesTillOut_X4_pass : GoodIn wsX4_minutesTillOut (wsV RX4 95 RX4 yX4_pass wsX4_pass) := goodIn_app (goodIn_of _ (by decide +kernel)) ggX4_minutesTillOut_X4_pass
theorem dX4_minutesTillOut_0 : decode cX4_minutesTillOut 0 = .ok (.iconst 0, 1) := by decide +kernel
theorem dX4_minutesTillOut_1 : decode cX4_minutesTillOut 1 = .ok (.istore 4, 2) := by decide +kernel
theorem dX4_minutesTillOut_3 : decode cX4_minutesTillOut 3 = .ok (.iload 4, 2) := by decide +kernel
theorem dX4_minutesTillOut_5 : decode cX4_minutesTillOut 5 = .ok (.iload_n 3, 1) := by decide +kernel
theorem dX4_minutesTillOut_6 : decode cX4_minutesTillOut 6 = .ok (.if_icmp .gt 24, 3) := by decide +kernel
theorem dX4_minutesTillOut_9 : decode cX4_minutesTillOut 9 = .ok (.aload_n 0, 1) := by decide +kernel
theorem dX4_minutesTillOut_10 : decode cX4_minutesTillOut 10 = .ok (.invokevirtual 48, 3) := by decide +kernel
theorem dX4_minutesTillOut_13 : decode cX4_minutesTillOut 13 = .ok (.ifCond .ne 6, 3) := by decide +kernel
theorem dX4_minutesTillOut_16 : decode cX4_minutesTillOut 16 = .ok (.iload 4, 2) := by decide +kernel
theorem dX4_minutesTillOut_18 : decode cX4_minutesTillOut 18 = .ok (.ireturn, 1) := by decide +kernel
theorem dX4_minutesTillOut_19 : decode cX4_minutesTillOut 19 = .ok (.aload_n 0, 1) := by decide +kernel
theorem dX4_minutesTillOut_20 : decode cX4_minutesTillOut 20 = .ok (.lload_n 1, 1) := by decide +kernel
theorem dX4_minutesTillOut_21 : decode cX4_minutesTillOut 21 = .ok (.invokevirtual 95, 3) := by decide +kernel
theorem dX4_minutesTillOut_24 : decode cX4_minutesTillOut 24 = .ok (.iinc 4 1, 3) := by decide +kernel
theorem dX4_minutesTillOut_27 : decode cX4_minutesTillOut 27 = .ok (.goto (-24), 3) := by decide +kernel
theorem dX4_minutesTillOut_30 : decode cX4_minutesTillOut 30 = .ok (.iconst (-1), 1) := by decide +kernel
theorem dX4_minutesTillOut_31 : decode cX4_minutesTillOut 31 = .ok (.ireturn, 1) := by decide +kernel
set_option maxRecDepth 20000 in
theorem ggX4_minutesTillSeen_X4_isIn : GoodIn wsX4_minutesTillSeen wsX4_isIn := goodIn_r _ [5, 6, 7, 8, 9, 10, 67, 68, 69, 70, 71] (by decide +kernel) (by decide +kernel)
set_option maxRecDepth 20000 in
theorem gX4_minutesTillSeen_X4_isIn : GoodIn wsX4_minutesTillSeen (wsV RX4 48 RX4 yX4_isIn wsX4_isIn) := goodIn_app (goodIn_of _ (by decide +kernel)) ggX4_minutesTillSeen_X4_isIn
set_option maxRecDepth 20000 in
theorem ggX4_minutesTillSeen_X4_isSeen : GoodIn wsX4_minutesTillSeen wsX4_isSeen := goodIn_r _ [14, 6, 1, 2, 3, 4, 5, 7, 8, 9, 10, 15, 16, 17, 67, 68, 69, 70, 71] (by decide +kernel) (by decide +kernel)
set_option maxRecDepth 20000 in
theorem gX4_minutesTillSeen_X4_isSeen : GoodIn wsX4_minutesTillSeen (wsV RX4 99 RX4 yX4_isSeen wsX4_isSeen) := goodIn_app (goodIn_of _ (by decide +kernel)) ggX4_minutesTillSeen_X4_isSeen
set_option maxRecDepth 20000 in
theorem ggX4_minutesTillSeen_X4_pass : GoodIn wsX4_minutesTillSeen wsX4_pass := goodIn_r _ [21, 22, 6, 23, 24, 25, 26, 27, 28, 1, 2, 3, 4, 5, 7, 8, 9, 10, 29, 30, 31, 32, 33, 34, 35, 36, 37, 38, 39, 40, 41, 42, 43, 44, 45, 15, 16, 17, 46, 47, 48, 49, 50, 51, 52, 53, 54, 55, 56, 57, 58, 59, 60, 61, 62, 63, 64, 65, 66, 67, 68, 69, 70, 71, 72, 73, 74, 75, 76, 77, 78, 79, 80, 81, 82, 83, 84, 85] (by decide +kernel) (by decide +kernel)
set_option maxRecDepth 20000 in
theorem gX4_minutesTillSeen_X4_pass : GoodIn wsX4_minutesTillSeen (wsV RX4 95 RX4 yX4_pass wsX4_pass) := goodIn_app (goodIn_of _ (by decide +kernel)) ggX4_minutesTillSeen_X4_pass
theorem dX4_minutesTillSeen_0 : decode cX4_minutesTillSeen 0 = .ok (.iconst 0, 1) := by decide +kernel
theorem dX4_minutesTillSeen_1 : decode cX4_minutesTillSeen 1 = .ok (.istore 4, 2) := by decide +kernel
theorem dX4_minutesTillSeen_3 : decode cX4_minutesTillSeen 3 = .ok (.iload 4, 2) := by decide +kernel
theorem dX4_minutesTillSeen_5 : decode cX4_minutesTillSeen 5 = .ok (.iload_n 3, 1) := by decide +kernel
theorem dX4_minutesTillSeen_6 : decode cX4_minutesTillSeen 6 = .ok (.if_icmp .gt 32, 3) := by decide +kernel
theorem dX4_minutesTillSeen_9 : decode cX4_minutesTillSeen 9 = .ok (.aload_n 0, 1) := by decide +kernel
theorem dX4_minutesTillSeen_10 : decode cX4_minutesTillSeen 10 = .ok (.invokevirtual 48, 3) := by decide +kernel
theorem dX4_minutesTillSeen_13 : decode cX4_minutesTillSeen 13 = .ok (.ifCond .eq 25, 3) := by decide +kernel
theorem dX4_minutesTillSeen_16 : decode cX4_minutesTillSeen 16 = .ok (.aload_n 0, 1) := by decide +kernel
theorem dX4_minutesTillSeen_17 : decode cX4_minutesTillSeen 17 = .ok (.lload_n 1, 1) := by decide +kernel
theorem dX4_minutesTillSeen_18 : decode cX4_minutesTillSeen 18 = .ok (.invokevirtual 99, 3) := by decide +kernel
theorem dX4_minutesTillSeen_21 : decode cX4_minutesTillSeen 21 = .ok (.ifCond .eq 6, 3) := by decide +kernel
theorem dX4_minutesTillSeen_24 : decode cX4_minutesTillSeen 24 = .ok (.iload 4, 2) := by decide +kernel
theorem dX4_minutesTillSeen_26 : decode cX4_minutesTillSeen 26 = .ok (.ireturn, 1) := by decide +kernel
theorem dX4_minutesTillSeen_27 : decode cX4_minutesTillSeen 27 = .ok (.aload_n 0, 1) := by decide +kernel
theorem dX4_minutesTillSeen_28 : decode cX4_minutesTillSeen 28 = .ok (.lload_n 1, 1) := by decide +kernel
theorem dX4_minutesTillSeen_29 : decode cX4_minutesTillSeen 29 = .ok (.invokevirtual 95, 3) := by decide +kernel
theorem dX4_minutesTillSeen_32 : decode cX4_minutesTillSeen 32 = .ok (.iinc 4 1, 3) := by decide +kernel
theorem dX4_minutesTillSeen_35 : decode cX4_minutesTillSeen 35 = .ok (.goto (-32), 3) := by decide +kernel
theorem dX4_minutesTillSeen_38 : decode cX4_minutesTillSeen 38 = .ok (.iconst (-1), 1) := by decide +kernel
theorem dX4_minutesTillSeen_39 : decode cX4_minutesTillSeen 39 = .ok (.ireturn, 1) := by decide +kernel
set_option maxRecDepth 20000 in
theorem ggX4_hasWrinkles_X4_pass : GoodIn wsX4_hasWrinkles wsX4_pass := goodIn_r _ [8, 9, 10, 11, 3, 12, 13, 14, 15, 16, 17, 18, 7, 19, 20, 21, 22, 23, 24, 25, 26, 27, 28, 29, 30, 31, 32, 33, 34, 35, 36, 37, 38, 39, 40, 41, 42, 43, 44, 45, 46, 47, 48, 49, 50, 51, 52, 53, 54, 55, 56, 57, 58, 59, 60, 61, 62, 63, 64, 68, 69, 70, 71, 72, 73, 74, 75, 76, 77, 78, 79, 80, 81, 82, 83, 84, 85, 86] (by decide +kernel) (by decide +kernel)
set_option maxRecDepth 20000 in
theorem gX4_hasWrinkles_X4_pass : GoodIn wsX4_hasWrinkles (wsV RX4 95 RX4 yX4_pass wsX4_pass) := goodIn_app (goodIn_of _ (by decide +kernel)) ggX4_hasWrinkles_X4_pass
theorem dX4_hasWrinkles_0 : decode cX4_hasWrinkles 0 = .ok (.iconst 0, 1) := by decide +kernel
theorem dX4_hasWrinkles_1 : decode cX4_hasWrinkles 1 = .ok (.istore 4, 2) := by decide +kernel
theorem dX4_hasWrinkles_3 : decode cX4_hasWrinkles 3 = .ok (.iload 4, 2) := by decide +kernel
theorem dX4_hasWrinkles_5 : decode cX4_hasWrinkles 5 = .ok (.aload_n 1, 1) := by decide +kernel
theorem dX4_hasWrinkles_6 : decode cX4_hasWrinkles 6 = .ok (.getfield 103, 3) := by decide +kernel
theorem dX4_hasWrinkles_9 : decode cX4_hasWrinkles 9 = .ok (.if_icmp .ge 41, 3) := by decide +kernel
theorem dX4_hasWrinkles_12 : decode cX4_hasWrinkles 12 = .ok (.aload_n 1, 1) := by decide +kernel
theorem dX4_hasWrinkles_13 : decode cX4_hasWrinkles 13 = .ok (.getfield 108, 3) := by decide +kernel
theorem dX4_hasWrinkles_16 : decode cX4_hasWrinkles 16 = .ok (.iload 4, 2) := by decide +kernel
theorem dX4_hasWrinkles_18 : decode cX4_hasWrinkles 18 = .ok (.iaload, 1) := by decide +kernel
theorem dX4_hasWrinkles_19 : decode cX4_hasWrinkles 19 = .ok (.iconst (-1), 1) := by decide +kernel
theorem dX4_hasWrinkles_20 : decode cX4_hasWrinkles 20 = .ok (.if_icmp .eq 19, 3) := by decide +kernel
theorem dX4_hasWrinkles_23 : decode cX4_hasWrinkles 23 = .ok (.aload_n 1, 1) := by decide +kernel
theorem dX4_hasWrinkles_24 : decode cX4_hasWrinkles 24 = .ok (.getfield 108, 3) := by decide +kernel
theorem dX4_hasWrinkles_27 : decode cX4_hasWrinkles 27 = .ok (.iload 4, 2) := by decide +kernel
theorem dX4_hasWrinkles_29 : decode cX4_hasWrinkles 29 = .ok (.iaload, 1) := by decide +kernel
theorem dX4_hasWrinkles_30 : decode cX4_hasWrinkles 30 = .ok (.aload_n 0, 1) := by decide +kernel
theorem dX4_hasWrinkles_31 : decode cX4_hasWrinkles 31 = .ok (.getfield 40, 3) := by decide +kernel
theorem dX4_hasWrinkles_34 : decode cX4_hasWrinkles 34 = .ok (.if_icmp .eq 5, 3) := by decide +kernel
theorem dX4_hasWrinkles_37 : decode cX4_hasWrinkles 37 = .ok (.iconst 0, 1) := by decide +kernel
theorem dX4_hasWrinkles_38 : decode cX4_hasWrinkles 38 = .ok (.ireturn, 1) := by decide +kernel
theorem dX4_hasWrinkles_39 : decode cX4_hasWrinkles 39 = .ok (.aload_n 0, 1) := by decide +kernel
theorem dX4_hasWrinkles_40 : decode cX4_hasWrinkles 40 = .ok (.lload_n 2, 1) := by decide +kernel
theorem dX4_hasWrinkles_41 : decode cX4_hasWrinkles 41 = .ok (.invokevirtual 95, 3) := by decide +kernel
theorem dX4_hasWrinkles_44 : decode cX4_hasWrinkles 44 = .ok (.iinc 4 1, 3) := by decide +kernel
theorem dX4_hasWrinkles_47 : decode cX4_hasWrinkles 47 = .ok (.goto (-44), 3) := by decide +kernel
theorem dX4_hasWrinkles_50 : decode cX4_hasWrinkles 50 = .ok (.iconst 1, 1) := by decide +kernel
theorem dX4_hasWrinkles_51 : decode cX4_hasWrinkles 51 = .ok (.ireturn, 1) := by decide +kernel
set_option maxRecDepth 20000 in
theorem ggX4_taxedColumn_X4_isIn : GoodIn wsX4_taxedColumn wsX4_isIn := goodIn_r _ [6, 1, 7, 8, 9, 10, 17, 18, 19, 20, 21] (by decide +kernel) (by decide +kernel)
set_option maxRecDepth 20000 in
theorem gX4_taxedColumn_X4_isIn : GoodIn wsX4_taxedColumn (wsV RX4 48 RX4 yX4_isIn wsX4_isIn) := goodIn_app (goodIn_of _ (by decide +kernel)) ggX4_taxedColumn_X4_isIn
set_option maxRecDepth 20000 in
theorem ggX4_taxedColumn_X0_columnOf : GoodIn wsX4_taxedColumn wsX0_columnOf := goodIn_r _ [13] (by decide +kernel) (by decide +kernel)
set_option maxRecDepth 20000 in
theorem gX4_taxedColumn_X0_columnOf : GoodIn wsX4_taxedColumn (va_wsS RX4 56 yX0_columnOf wsX0_columnOf) := goodIn_app (goodIn_of _ (by decide +kernel)) ggX4_taxedColumn_X0_columnOf
set_option maxRecDepth 20000 in
theorem ggX4_taxedColumn_X0_columnOfSide : GoodIn wsX4_taxedColumn wsX0_columnOfSide := goodIn_r _ [16] (by decide +kernel) (by decide +kernel)
set_option maxRecDepth 20000 in
theorem gX4_taxedColumn_X0_columnOfSide : GoodIn wsX4_taxedColumn (va_wsS RX4 60 yX0_columnOfSide wsX0_columnOfSide) := goodIn_app (goodIn_of _ (by decide +kernel)) ggX4_taxedColumn_X0_columnOfSide
theorem dX4_taxedColumn_0 : decode cX4_taxedColumn 0 = .ok (.aload_n 0, 1) := by decide +kernel
theorem dX4_taxedColumn_1 : decode cX4_taxedColumn 1 = .ok (.invokevirtual 48, 3) := by decide +kernel
theorem dX4_taxedColumn_4 : decode cX4_taxedColumn 4 = .ok (.ifCond .eq 13, 3) := by decide +kernel
theorem dX4_taxedColumn_7 : decode cX4_taxedColumn 7 = .ok (.aload_n 0, 1) := by decide +kernel
theorem dX4_taxedColumn_8 : decode cX4_taxedColumn 8 = .ok (.getfield 30, 3) := by decide +kernel
theorem dX4_taxedColumn_11 : decode cX4_taxedColumn 11 = .ok (.invokestatic 56, 3) := by decide +kernel
theorem dX4_taxedColumn_14 : decode cX4_taxedColumn 14 = .ok (.goto 13, 3) := by decide +kernel
theorem dX4_taxedColumn_17 : decode cX4_taxedColumn 17 = .ok (.aload_n 0, 1) := by decide +kernel
theorem dX4_taxedColumn_18 : decode cX4_taxedColumn 18 = .ok (.getfield 30, 3) := by decide +kernel
theorem dX4_taxedColumn_21 : decode cX4_taxedColumn 21 = .ok (.bipush 100, 2) := by decide +kernel
theorem dX4_taxedColumn_23 : decode cX4_taxedColumn 23 = .ok (.isub, 1) := by decide +kernel
theorem dX4_taxedColumn_24 : decode cX4_taxedColumn 24 = .ok (.invokestatic 60, 3) := by decide +kernel
theorem dX4_taxedColumn_27 : decode cX4_taxedColumn 27 = .ok (.ireturn, 1) := by decide +kernel
theorem dX5_init_0 : decode cX5_init 0 = .ok (.aload_n 0, 1) := by decide +kernel
theorem dX5_init_1 : decode cX5_init 1 = .ok (.invokespecial 1, 3) := by decide +kernel
theorem dX5_init_4 : decode cX5_init 4 = .ok (.aload_n 0, 1) := by decide +kernel
theorem dX5_init_5 : decode cX5_init 5 = .ok (.aload_n 1, 1) := by decide +kernel
theorem dX5_init_6 : decode cX5_init 6 = .ok (.putfield 7, 3) := by decide +kernel
theorem dX5_init_9 : decode cX5_init 9 = .ok (.aload_n 0, 1) := by decide +kernel
theorem dX5_init_10 : decode cX5_init 10 = .ok (.bipush 48, 2) := by decide +kernel
theorem dX5_init_12 : decode cX5_init 12 = .ok (.newarray .int, 2) := by decide +kernel
theorem dX5_init_14 : decode cX5_init 14 = .ok (.putfield 15, 3) := by decide +kernel
theorem dX5_init_17 : decode cX5_init 17 = .ok (.return_, 1) := by decide +kernel
set_option maxRecDepth 20000 in
theorem ggX5_fewestSteps_X0_cellsOfSide : GoodIn wsX5_fewestSteps wsX0_cellsOfSide := goodIn_r _ [5, 6, 7] (by decide +kernel) (by decide +kernel)
set_option maxRecDepth 20000 in
theorem gX5_fewestSteps_X0_cellsOfSide : GoodIn wsX5_fewestSteps (va_wsS RX5 19 yX0_cellsOfSide wsX0_cellsOfSide) := goodIn_app (goodIn_of _ (by decide +kernel)) ggX5_fewestSteps_X0_cellsOfSide
set_option maxRecDepth 20000 in
theorem ggX5_fewestSteps_X0_has : GoodIn wsX5_fewestSteps wsX0_has := goodIn_r _ [10] (by decide +kernel) (by decide +kernel)
set_option maxRecDepth 20000 in
theorem gX5_fewestSteps_X0_has : GoodIn wsX5_fewestSteps (va_wsS RX5 23 yX0_has wsX0_has) := goodIn_app (goodIn_of _ (by decide +kernel)) ggX5_fewestSteps_X0_has
set_option maxRecDepth 20000 in
theorem ggX5_fewestSteps_X0_allBeside : GoodIn wsX5_fewestSteps wsX0_allBeside := goodIn_r _ [13, 14, 15, 16] (by decide +kernel) (by decide +kernel)
set_option maxRecDepth 20000 in
theorem gX5_fewestSteps_X0_allBeside : GoodIn wsX5_fewestSteps (va_wsS RX5 27 yX0_allBeside wsX0_allBeside) := goodIn_app (goodIn_of _ (by decide +kernel)) ggX5_fewestSteps_X0_allBeside
theorem dX5_fewestSteps_0 : decode cX5_fewestSteps 0 = .ok (.iload_n 1, 1) := by decide +kernel
theorem dX5_fewestSteps_1 : decode cX5_fewestSteps 1 = .ok (.invokestatic 19, 3) := by decide +kernel
theorem dX5_fewestSteps_4 : decode cX5_fewestSteps 4 = .ok (.lload_n 2, 1) := by decide +kernel
theorem dX5_fewestSteps_5 : decode cX5_fewestSteps 5 = .ok (.land, 1) := by decide +kernel
theorem dX5_fewestSteps_6 : decode cX5_fewestSteps 6 = .ok (.lstore 4, 2) := by decide +kernel
theorem dX5_fewestSteps_8 : decode cX5_fewestSteps 8 = .ok (.lload 4, 2) := by decide +kernel
theorem dX5_fewestSteps_10 : decode cX5_fewestSteps 10 = .ok (.lstore 6, 2) := by decide +kernel
theorem dX5_fewestSteps_12 : decode cX5_fewestSteps 12 = .ok (.iconst 0, 1) := by decide +kernel
theorem dX5_fewestSteps_13 : decode cX5_fewestSteps 13 = .ok (.istore 8, 2) := by decide +kernel
theorem dX5_fewestSteps_15 : decode cX5_fewestSteps 15 = .ok (.iload 8, 2) := by decide +kernel
theorem dX5_fewestSteps_17 : decode cX5_fewestSteps 17 = .ok (.bipush 48, 2) := by decide +kernel
theorem dX5_fewestSteps_19 : decode cX5_fewestSteps 19 = .ok (.if_icmp .ge 44, 3) := by decide +kernel
theorem dX5_fewestSteps_22 : decode cX5_fewestSteps 22 = .ok (.lload 4, 2) := by decide +kernel
theorem dX5_fewestSteps_24 : decode cX5_fewestSteps 24 = .ok (.iload_n 0, 1) := by decide +kernel
theorem dX5_fewestSteps_25 : decode cX5_fewestSteps 25 = .ok (.invokestatic 23, 3) := by decide +kernel
theorem dX5_fewestSteps_28 : decode cX5_fewestSteps 28 = .ok (.ifCond .eq 6, 3) := by decide +kernel
theorem dX5_fewestSteps_31 : decode cX5_fewestSteps 31 = .ok (.iload 8, 2) := by decide +kernel
theorem dX5_fewestSteps_33 : decode cX5_fewestSteps 33 = .ok (.ireturn, 1) := by decide +kernel
theorem dX5_fewestSteps_34 : decode cX5_fewestSteps 34 = .ok (.lload 4, 2) := by decide +kernel
theorem dX5_fewestSteps_36 : decode cX5_fewestSteps 36 = .ok (.invokestatic 27, 3) := by decide +kernel
theorem dX5_fewestSteps_39 : decode cX5_fewestSteps 39 = .ok (.lload_n 2, 1) := by decide +kernel
theorem dX5_fewestSteps_40 : decode cX5_fewestSteps 40 = .ok (.land, 1) := by decide +kernel
theorem dX5_fewestSteps_41 : decode cX5_fewestSteps 41 = .ok (.lload 6, 2) := by decide +kernel
theorem dX5_fewestSteps_43 : decode cX5_fewestSteps 43 = .ok (.ldc2_w 31, 3) := by decide +kernel
theorem dX5_fewestSteps_46 : decode cX5_fewestSteps 46 = .ok (.lxor, 1) := by decide +kernel
theorem dX5_fewestSteps_47 : decode cX5_fewestSteps 47 = .ok (.land, 1) := by decide +kernel
theorem dX5_fewestSteps_48 : decode cX5_fewestSteps 48 = .ok (.lstore 4, 2) := by decide +kernel
theorem dX5_fewestSteps_50 : decode cX5_fewestSteps 50 = .ok (.lload 6, 2) := by decide +kernel
theorem dX5_fewestSteps_52 : decode cX5_fewestSteps 52 = .ok (.lload 4, 2) := by decide +kernel
theorem dX5_fewestSteps_54 : decode cX5_fewestSteps 54 = .ok (.lor, 1) := by decide +kernel
theorem dX5_fewestSteps_55 : decode cX5_fewestSteps 55 = .ok (.lstore 6, 2) := by decide +kernel
theorem dX5_fewestSteps_57 : decode cX5_fewestSteps 57 = .ok (.iinc 8 1, 3) := by decide +kernel
theorem dX5_fewestSteps_60 : decode cX5_fewestSteps 60 = .ok (.goto (-45), 3) := by decide +kernel
theorem dX5_fewestSteps_63 : decode cX5_fewestSteps 63 = .ok (.iconst (-1), 1) := by decide +kernel
theorem dX5_fewestSteps_64 : decode cX5_fewestSteps 64 = .ok (.ireturn, 1) := by decide +kernel
set_option maxRecDepth 20000 in
theorem ggX5_firstStep_X5_fewestSteps : GoodIn wsX5_firstStep wsX5_fewestSteps := goodIn_r _ [4, 5, 6, 7, 8, 9, 10, 11, 12, 13, 14, 15, 16, 17, 18, 19, 20] (by decide +kernel) (by decide +kernel)
set_option maxRecDepth 20000 in
theorem gX5_firstStep_X5_fewestSteps : GoodIn wsX5_firstStep (va_wsS RX5 33 yX5_fewestSteps wsX5_fewestSteps) := goodIn_app (goodIn_of _ (by decide +kernel)) ggX5_firstStep_X5_fewestSteps
set_option maxRecDepth 20000 in
theorem ggX5_firstStep_X0_apart : GoodIn wsX5_firstStep wsX0_apart := goodIn_r _ [23, 24, 25, 26, 27, 28, 29, 8, 30, 31, 32, 33] (by decide +kernel) (by decide +kernel)
set_option maxRecDepth 20000 in
theorem gX5_firstStep_X0_apart : GoodIn wsX5_firstStep (va_wsS RX5 37 yX0_apart wsX0_apart) := goodIn_app (goodIn_of _ (by decide +kernel)) ggX5_firstStep_X0_apart
theorem dX5_firstStep_0 : decode cX5_firstStep 0 = .ok (.iload_n 0, 1) := by decide +kernel
theorem dX5_firstStep_1 : decode cX5_firstStep 1 = .ok (.iload_n 1, 1) := by decide +kernel
theorem dX5_firstStep_2 : decode cX5_firstStep 2 = .ok (.lload_n 2, 1) := by decide +kernel
theorem dX5_firstStep_3 : decode cX5_firstStep 3 = .ok (.invokestatic 33, 3) := by decide +kernel
theorem dX5_firstStep_6 : decode cX5_firstStep 6 = .ok (.istore 4, 2) := by decide +kernel
theorem dX5_firstStep_8 : decode cX5_firstStep 8 = .ok (.iload 4, 2) := by decide +kernel
theorem dX5_firstStep_10 : decode cX5_firstStep 10 = .ok (.ifCond .gt 14, 3) := by decide +kernel
theorem dX5_firstStep_13 : decode cX5_firstStep 13 = .ok (.iload 4, 2) := by decide +kernel
theorem dX5_firstStep_15 : decode cX5_firstStep 15 = .ok (.ifCond .ge 7, 3) := by decide +kernel
theorem dX5_firstStep_18 : decode cX5_firstStep 18 = .ok (.iconst (-1), 1) := by decide +kernel
theorem dX5_firstStep_19 : decode cX5_firstStep 19 = .ok (.goto 4, 3) := by decide +kernel
theorem dX5_firstStep_22 : decode cX5_firstStep 22 = .ok (.iload_n 0, 1) := by decide +kernel
theorem dX5_firstStep_23 : decode cX5_firstStep 23 = .ok (.ireturn, 1) := by decide +kernel
theorem dX5_firstStep_24 : decode cX5_firstStep 24 = .ok (.iconst 0, 1) := by decide +kernel
theorem dX5_firstStep_25 : decode cX5_firstStep 25 = .ok (.istore 5, 2) := by decide +kernel
theorem dX5_firstStep_27 : decode cX5_firstStep 27 = .ok (.iload 5, 2) := by decide +kernel
theorem dX5_firstStep_29 : decode cX5_firstStep 29 = .ok (.bipush 48, 2) := by decide +kernel
theorem dX5_firstStep_31 : decode cX5_firstStep 31 = .ok (.if_icmp .ge 36, 3) := by decide +kernel
theorem dX5_firstStep_34 : decode cX5_firstStep 34 = .ok (.iload_n 0, 1) := by decide +kernel
theorem dX5_firstStep_35 : decode cX5_firstStep 35 = .ok (.iload 5, 2) := by decide +kernel
theorem dX5_firstStep_37 : decode cX5_firstStep 37 = .ok (.invokestatic 37, 3) := by decide +kernel
theorem dX5_firstStep_40 : decode cX5_firstStep 40 = .ok (.iconst 1, 1) := by decide +kernel
theorem dX5_firstStep_41 : decode cX5_firstStep 41 = .ok (.if_icmp .ne 20, 3) := by decide +kernel
theorem dX5_firstStep_44 : decode cX5_firstStep 44 = .ok (.iload 5, 2) := by decide +kernel
theorem dX5_firstStep_46 : decode cX5_firstStep 46 = .ok (.iload_n 1, 1) := by decide +kernel
theorem dX5_firstStep_47 : decode cX5_firstStep 47 = .ok (.lload_n 2, 1) := by decide +kernel
theorem dX5_firstStep_48 : decode cX5_firstStep 48 = .ok (.invokestatic 33, 3) := by decide +kernel
theorem dX5_firstStep_51 : decode cX5_firstStep 51 = .ok (.iload 4, 2) := by decide +kernel
theorem dX5_firstStep_53 : decode cX5_firstStep 53 = .ok (.iconst 1, 1) := by decide +kernel
theorem dX5_firstStep_54 : decode cX5_firstStep 54 = .ok (.isub, 1) := by decide +kernel
theorem dX5_firstStep_55 : decode cX5_firstStep 55 = .ok (.if_icmp .ne 6, 3) := by decide +kernel
theorem dX5_firstStep_58 : decode cX5_firstStep 58 = .ok (.iload 5, 2) := by decide +kernel
theorem dX5_firstStep_60 : decode cX5_firstStep 60 = .ok (.ireturn, 1) := by decide +kernel
theorem dX5_firstStep_61 : decode cX5_firstStep 61 = .ok (.iinc 5 1, 3) := by decide +kernel
theorem dX5_firstStep_64 : decode cX5_firstStep 64 = .ok (.goto (-37), 3) := by decide +kernel
theorem dX5_firstStep_67 : decode cX5_firstStep 67 = .ok (.iconst (-1), 1) := by decide +kernel
theorem dX5_firstStep_68 : decode cX5_firstStep 68 = .ok (.ireturn, 1) := by decide +kernel
set_option maxRecDepth 20000 in
theorem ggX5_leastSteam_X5_offer : GoodIn wsX5_leastSteam wsX5_offer := goodIn_r _ [7, 8, 1, 9, 10, 11, 12, 13, 14, 15, 16, 17, 18, 19, 20, 21, 22, 23, 24, 25, 26, 27, 28, 29, 30, 31, 32, 33, 34, 35, 36, 52, 53, 54, 55, 56, 57, 58, 59, 60, 61, 62, 63, 64, 65, 66, 67] (by decide +kernel) (by decide +kernel)
set_option maxRecDepth 20000 in
theorem gX5_leastSteam_X5_offer : GoodIn wsX5_leastSteam (wsV RX5 42 RX5 yX5_offer wsX5_offer) := goodIn_app (goodIn_of _ (by decide +kernel)) ggX5_leastSteam_X5_offer
set_option maxRecDepth 20000 in
theorem ggX5_leastSteam_X5_nearestBut : GoodIn wsX5_leastSteam wsX5_nearestBut := goodIn_r _ [40, 2, 1, 41, 42, 26, 43, 52, 53] (by decide +kernel) (by decide +kernel)
set_option maxRecDepth 20000 in
theorem gX5_leastSteam_X5_nearestBut : GoodIn wsX5_leastSteam (wsV RX5 46 RX5 yX5_nearestBut wsX5_nearestBut) := goodIn_app (goodIn_of _ (by decide +kernel)) ggX5_leastSteam_X5_nearestBut
set_option maxRecDepth 20000 in
theorem ggX5_leastSteam_X0_cellsOfSide : GoodIn wsX5_leastSteam wsX0_cellsOfSide := goodIn_r _ [46, 47, 48] (by decide +kernel) (by decide +kernel)
set_option maxRecDepth 20000 in
theorem gX5_leastSteam_X0_cellsOfSide : GoodIn wsX5_leastSteam (va_wsS RX5 19 yX0_cellsOfSide wsX0_cellsOfSide) := goodIn_app (goodIn_of _ (by decide +kernel)) ggX5_leastSteam_X0_cellsOfSide
set_option maxRecDepth 20000 in
theorem ggX5_leastSteam_X0_has : GoodIn wsX5_leastSteam wsX0_has := goodIn_r _ [43] (by decide +kernel) (by decide +kernel)
set_option maxRecDepth 20000 in
theorem gX5_leastSteam_X0_has : GoodIn wsX5_leastSteam (va_wsS RX5 23 yX0_has wsX0_has) := goodIn_app (goodIn_of _ (by decide +kernel)) ggX5_leastSteam_X0_has
set_option maxRecDepth 20000 in
theorem ggX5_leastSteam_X0_beside : GoodIn wsX5_leastSteam wsX0_beside := goodIn_r _ [51, 31, 32, 26, 33, 34, 35, 36] (by decide +kernel) (by decide +kernel)
set_option maxRecDepth 20000 in
theorem gX5_leastSteam_X0_beside : GoodIn wsX5_leastSteam (va_wsS RX5 50 yX0_beside wsX0_beside) := goodIn_app (goodIn_of _ (by decide +kernel)) ggX5_leastSteam_X0_beside
theorem dX5_leastSteam_0 : decode cX5_leastSteam 0 = .ok (.iconst 0, 1) := by decide +kernel
theorem dX5_leastSteam_1 : decode cX5_leastSteam 1 = .ok (.istore_n 3, 1) := by decide +kernel
theorem dX5_leastSteam_2 : decode cX5_leastSteam 2 = .ok (.iload_n 3, 1) := by decide +kernel
theorem dX5_leastSteam_3 : decode cX5_leastSteam 3 = .ok (.bipush 48, 2) := by decide +kernel
theorem dX5_leastSteam_5 : decode cX5_leastSteam 5 = .ok (.if_icmp .ge 17, 3) := by decide +kernel
theorem dX5_leastSteam_8 : decode cX5_leastSteam 8 = .ok (.aload_n 0, 1) := by decide +kernel
theorem dX5_leastSteam_9 : decode cX5_leastSteam 9 = .ok (.getfield 15, 3) := by decide +kernel
theorem dX5_leastSteam_12 : decode cX5_leastSteam 12 = .ok (.iload_n 3, 1) := by decide +kernel
theorem dX5_leastSteam_13 : decode cX5_leastSteam 13 = .ok (.ldc 41, 2) := by decide +kernel
theorem dX5_leastSteam_15 : decode cX5_leastSteam 15 = .ok (.iastore, 1) := by decide +kernel
theorem dX5_leastSteam_16 : decode cX5_leastSteam 16 = .ok (.iinc 3 1, 3) := by decide +kernel
theorem dX5_leastSteam_19 : decode cX5_leastSteam 19 = .ok (.goto (-17), 3) := by decide +kernel
theorem dX5_leastSteam_22 : decode cX5_leastSteam 22 = .ok (.aload_n 0, 1) := by decide +kernel
theorem dX5_leastSteam_23 : decode cX5_leastSteam 23 = .ok (.iload_n 1, 1) := by decide +kernel
theorem dX5_leastSteam_24 : decode cX5_leastSteam 24 = .ok (.iconst 0, 1) := by decide +kernel
theorem dX5_leastSteam_25 : decode cX5_leastSteam 25 = .ok (.invokevirtual 42, 3) := by decide +kernel
theorem dX5_leastSteam_28 : decode cX5_leastSteam 28 = .ok (.lconst 0, 1) := by decide +kernel
theorem dX5_leastSteam_29 : decode cX5_leastSteam 29 = .ok (.lstore_n 3, 1) := by decide +kernel
theorem dX5_leastSteam_30 : decode cX5_leastSteam 30 = .ok (.iconst 0, 1) := by decide +kernel
theorem dX5_leastSteam_31 : decode cX5_leastSteam 31 = .ok (.istore 5, 2) := by decide +kernel
theorem dX5_leastSteam_33 : decode cX5_leastSteam 33 = .ok (.iload 5, 2) := by decide +kernel
theorem dX5_leastSteam_35 : decode cX5_leastSteam 35 = .ok (.bipush 48, 2) := by decide +kernel
theorem dX5_leastSteam_37 : decode cX5_leastSteam 37 = .ok (.if_icmp .ge 83, 3) := by decide +kernel
theorem dX5_leastSteam_40 : decode cX5_leastSteam 40 = .ok (.aload_n 0, 1) := by decide +kernel
theorem dX5_leastSteam_41 : decode cX5_leastSteam 41 = .ok (.lload_n 3, 1) := by decide +kernel
theorem dX5_leastSteam_42 : decode cX5_leastSteam 42 = .ok (.invokevirtual 46, 3) := by decide +kernel
theorem dX5_leastSteam_45 : decode cX5_leastSteam 45 = .ok (.istore 6, 2) := by decide +kernel
theorem dX5_leastSteam_47 : decode cX5_leastSteam 47 = .ok (.iload 6, 2) := by decide +kernel
theorem dX5_leastSteam_49 : decode cX5_leastSteam 49 = .ok (.ifCond .ge 5, 3) := by decide +kernel
theorem dX5_leastSteam_52 : decode cX5_leastSteam 52 = .ok (.iconst (-1), 1) := by decide +kernel
theorem dX5_leastSteam_53 : decode cX5_leastSteam 53 = .ok (.ireturn, 1) := by decide +kernel
theorem dX5_leastSteam_54 : decode cX5_leastSteam 54 = .ok (.iload_n 2, 1) := by decide +kernel
theorem dX5_leastSteam_55 : decode cX5_leastSteam 55 = .ok (.invokestatic 19, 3) := by decide +kernel
theorem dX5_leastSteam_58 : decode cX5_leastSteam 58 = .ok (.iload 6, 2) := by decide +kernel
theorem dX5_leastSteam_60 : decode cX5_leastSteam 60 = .ok (.invokestatic 23, 3) := by decide +kernel
theorem dX5_leastSteam_63 : decode cX5_leastSteam 63 = .ok (.ifCond .eq 11, 3) := by decide +kernel
theorem dX5_leastSteam_66 : decode cX5_leastSteam 66 = .ok (.aload_n 0, 1) := by decide +kernel
theorem dX5_leastSteam_67 : decode cX5_leastSteam 67 = .ok (.getfield 15, 3) := by decide +kernel
theorem dX5_leastSteam_70 : decode cX5_leastSteam 70 = .ok (.iload 6, 2) := by decide +kernel
theorem dX5_leastSteam_72 : decode cX5_leastSteam 72 = .ok (.iaload, 1) := by decide +kernel
theorem dX5_leastSteam_73 : decode cX5_leastSteam 73 = .ok (.ireturn, 1) := by decide +kernel
theorem dX5_leastSteam_74 : decode cX5_leastSteam 74 = .ok (.lload_n 3, 1) := by decide +kernel
theorem dX5_leastSteam_75 : decode cX5_leastSteam 75 = .ok (.lconst 1, 1) := by decide +kernel
theorem dX5_leastSteam_76 : decode cX5_leastSteam 76 = .ok (.iload 6, 2) := by decide +kernel
theorem dX5_leastSteam_78 : decode cX5_leastSteam 78 = .ok (.lshl, 1) := by decide +kernel
theorem dX5_leastSteam_79 : decode cX5_leastSteam 79 = .ok (.lor, 1) := by decide +kernel
theorem dX5_leastSteam_80 : decode cX5_leastSteam 80 = .ok (.lstore_n 3, 1) := by decide +kernel
theorem dX5_leastSteam_81 : decode cX5_leastSteam 81 = .ok (.iconst 1, 1) := by decide +kernel
theorem dX5_leastSteam_82 : decode cX5_leastSteam 82 = .ok (.istore 7, 2) := by decide +kernel
theorem dX5_leastSteam_84 : decode cX5_leastSteam 84 = .ok (.iload 7, 2) := by decide +kernel
theorem dX5_leastSteam_86 : decode cX5_leastSteam 86 = .ok (.iconst 4, 1) := by decide +kernel
theorem dX5_leastSteam_87 : decode cX5_leastSteam 87 = .ok (.if_icmp .gt 27, 3) := by decide +kernel
theorem dX5_leastSteam_90 : decode cX5_leastSteam 90 = .ok (.aload_n 0, 1) := by decide +kernel
theorem dX5_leastSteam_91 : decode cX5_leastSteam 91 = .ok (.iload 6, 2) := by decide +kernel
theorem dX5_leastSteam_93 : decode cX5_leastSteam 93 = .ok (.iload 7, 2) := by decide +kernel
theorem dX5_leastSteam_95 : decode cX5_leastSteam 95 = .ok (.invokestatic 50, 3) := by decide +kernel
theorem dX5_leastSteam_98 : decode cX5_leastSteam 98 = .ok (.aload_n 0, 1) := by decide +kernel
theorem dX5_leastSteam_99 : decode cX5_leastSteam 99 = .ok (.getfield 15, 3) := by decide +kernel
theorem dX5_leastSteam_102 : decode cX5_leastSteam 102 = .ok (.iload 6, 2) := by decide +kernel
theorem dX5_leastSteam_104 : decode cX5_leastSteam 104 = .ok (.iaload, 1) := by decide +kernel
theorem dX5_leastSteam_105 : decode cX5_leastSteam 105 = .ok (.invokevirtual 42, 3) := by decide +kernel
theorem dX5_leastSteam_108 : decode cX5_leastSteam 108 = .ok (.iinc 7 1, 3) := by decide +kernel
theorem dX5_leastSteam_111 : decode cX5_leastSteam 111 = .ok (.goto (-27), 3) := by decide +kernel
theorem dX5_leastSteam_114 : decode cX5_leastSteam 114 = .ok (.iinc 5 1, 3) := by decide +kernel
theorem dX5_leastSteam_117 : decode cX5_leastSteam 117 = .ok (.goto (-84), 3) := by decide +kernel
theorem dX5_leastSteam_120 : decode cX5_leastSteam 120 = .ok (.iconst (-1), 1) := by decide +kernel
theorem dX5_leastSteam_121 : decode cX5_leastSteam 121 = .ok (.ireturn, 1) := by decide +kernel
set_option maxRecDepth 20000 in
theorem ggX5_offer_X6_steamToHide : GoodIn wsX5_offer wsX6_steamToHide := goodIn_r _ [11, 12, 13, 14, 15, 16, 5, 17, 18, 19, 20, 21, 22, 23, 24, 25, 26, 27, 28, 29, 30, 33, 34, 35, 36, 37, 38, 39, 40, 41, 42, 43, 44, 45, 46] (by decide +kernel) (by decide +kernel)
set_option maxRecDepth 20000 in
theorem gX5_offer_X6_steamToHide : GoodIn wsX5_offer (wsV RX5 53 RX6 yX6_steamToHide wsX6_steamToHide) := goodIn_app (goodIn_of _ (by decide +kernel)) ggX5_offer_X6_steamToHide
theorem dX5_offer_0 : decode cX5_offer 0 = .ok (.iload_n 1, 1) := by decide +kernel
theorem dX5_offer_1 : decode cX5_offer 1 = .ok (.ifCond .ge 4, 3) := by decide +kernel
theorem dX5_offer_4 : decode cX5_offer 4 = .ok (.return_, 1) := by decide +kernel
theorem dX5_offer_5 : decode cX5_offer 5 = .ok (.aload_n 0, 1) := by decide +kernel
theorem dX5_offer_6 : decode cX5_offer 6 = .ok (.getfield 7, 3) := by decide +kernel
theorem dX5_offer_9 : decode cX5_offer 9 = .ok (.iload_n 1, 1) := by decide +kernel
theorem dX5_offer_10 : decode cX5_offer 10 = .ok (.invokevirtual 53, 3) := by decide +kernel
theorem dX5_offer_13 : decode cX5_offer 13 = .ok (.istore_n 3, 1) := by decide +kernel
theorem dX5_offer_14 : decode cX5_offer 14 = .ok (.iload_n 3, 1) := by decide +kernel
theorem dX5_offer_15 : decode cX5_offer 15 = .ok (.ifCond .lt 21, 3) := by decide +kernel
theorem dX5_offer_18 : decode cX5_offer 18 = .ok (.aload_n 0, 1) := by decide +kernel
theorem dX5_offer_19 : decode cX5_offer 19 = .ok (.getfield 15, 3) := by decide +kernel
theorem dX5_offer_22 : decode cX5_offer 22 = .ok (.iload_n 1, 1) := by decide +kernel
theorem dX5_offer_23 : decode cX5_offer 23 = .ok (.aload_n 0, 1) := by decide +kernel
theorem dX5_offer_24 : decode cX5_offer 24 = .ok (.getfield 15, 3) := by decide +kernel
theorem dX5_offer_27 : decode cX5_offer 27 = .ok (.iload_n 1, 1) := by decide +kernel
theorem dX5_offer_28 : decode cX5_offer 28 = .ok (.iaload, 1) := by decide +kernel
theorem dX5_offer_29 : decode cX5_offer 29 = .ok (.iload_n 2, 1) := by decide +kernel
theorem dX5_offer_30 : decode cX5_offer 30 = .ok (.iload_n 3, 1) := by decide +kernel
theorem dX5_offer_31 : decode cX5_offer 31 = .ok (.iadd, 1) := by decide +kernel
theorem dX5_offer_32 : decode cX5_offer 32 = .ok (.invokestatic 59, 3) := by decide +kernel
theorem dX5_offer_35 : decode cX5_offer 35 = .ok (.iastore, 1) := by decide +kernel
theorem dX5_offer_36 : decode cX5_offer 36 = .ok (.return_, 1) := by decide +kernel
set_option maxRecDepth 20000 in
theorem ggX5_nearestBut_X0_has : GoodIn wsX5_nearestBut wsX0_has := goodIn_r _ [6] (by decide +kernel) (by decide +kernel)
set_option maxRecDepth 20000 in
theorem gX5_nearestBut_X0_has : GoodIn wsX5_nearestBut (va_wsS RX5 23 yX0_has wsX0_has) := goodIn_app (goodIn_of _ (by decide +kernel)) ggX5_nearestBut_X0_has
theorem dX5_nearestBut_0 : decode cX5_nearestBut 0 = .ok (.iconst (-1), 1) := by decide +kernel
theorem dX5_nearestBut_1 : decode cX5_nearestBut 1 = .ok (.istore_n 3, 1) := by decide +kernel
theorem dX5_nearestBut_2 : decode cX5_nearestBut 2 = .ok (.ldc 41, 2) := by decide +kernel
theorem dX5_nearestBut_4 : decode cX5_nearestBut 4 = .ok (.istore 4, 2) := by decide +kernel
theorem dX5_nearestBut_6 : decode cX5_nearestBut 6 = .ok (.iconst 0, 1) := by decide +kernel
theorem dX5_nearestBut_7 : decode cX5_nearestBut 7 = .ok (.istore 5, 2) := by decide +kernel
theorem dX5_nearestBut_9 : decode cX5_nearestBut 9 = .ok (.iload 5, 2) := by decide +kernel
theorem dX5_nearestBut_11 : decode cX5_nearestBut 11 = .ok (.bipush 48, 2) := by decide +kernel
theorem dX5_nearestBut_13 : decode cX5_nearestBut 13 = .ok (.if_icmp .ge 42, 3) := by decide +kernel
theorem dX5_nearestBut_16 : decode cX5_nearestBut 16 = .ok (.aload_n 0, 1) := by decide +kernel
theorem dX5_nearestBut_17 : decode cX5_nearestBut 17 = .ok (.getfield 15, 3) := by decide +kernel
theorem dX5_nearestBut_20 : decode cX5_nearestBut 20 = .ok (.iload 5, 2) := by decide +kernel
theorem dX5_nearestBut_22 : decode cX5_nearestBut 22 = .ok (.iaload, 1) := by decide +kernel
theorem dX5_nearestBut_23 : decode cX5_nearestBut 23 = .ok (.iload 4, 2) := by decide +kernel
theorem dX5_nearestBut_25 : decode cX5_nearestBut 25 = .ok (.if_icmp .ge 24, 3) := by decide +kernel
theorem dX5_nearestBut_28 : decode cX5_nearestBut 28 = .ok (.lload_n 1, 1) := by decide +kernel
theorem dX5_nearestBut_29 : decode cX5_nearestBut 29 = .ok (.iload 5, 2) := by decide +kernel
theorem dX5_nearestBut_31 : decode cX5_nearestBut 31 = .ok (.invokestatic 23, 3) := by decide +kernel
theorem dX5_nearestBut_34 : decode cX5_nearestBut 34 = .ok (.ifCond .ne 15, 3) := by decide +kernel
theorem dX5_nearestBut_37 : decode cX5_nearestBut 37 = .ok (.iload 5, 2) := by decide +kernel
theorem dX5_nearestBut_39 : decode cX5_nearestBut 39 = .ok (.istore_n 3, 1) := by decide +kernel
theorem dX5_nearestBut_40 : decode cX5_nearestBut 40 = .ok (.aload_n 0, 1) := by decide +kernel
theorem dX5_nearestBut_41 : decode cX5_nearestBut 41 = .ok (.getfield 15, 3) := by decide +kernel
theorem dX5_nearestBut_44 : decode cX5_nearestBut 44 = .ok (.iload 5, 2) := by decide +kernel
theorem dX5_nearestBut_46 : decode cX5_nearestBut 46 = .ok (.iaload, 1) := by decide +kernel
theorem dX5_nearestBut_47 : decode cX5_nearestBut 47 = .ok (.istore 4, 2) := by decide +kernel
theorem dX5_nearestBut_49 : decode cX5_nearestBut 49 = .ok (.iinc 5 1, 3) := by decide +kernel
theorem dX5_nearestBut_52 : decode cX5_nearestBut 52 = .ok (.goto (-43), 3) := by decide +kernel
theorem dX5_nearestBut_55 : decode cX5_nearestBut 55 = .ok (.iload_n 3, 1) := by decide +kernel
theorem dX5_nearestBut_56 : decode cX5_nearestBut 56 = .ok (.ireturn, 1) := by decide +kernel
set_option maxRecDepth 20000 in
theorem ggX5_cheapestRow_X5_steamToHideRow : GoodIn wsX5_cheapestRow wsX5_steamToHideRow := goodIn_r _ [6, 7, 8, 9, 10, 11, 12, 13, 14, 15, 16, 17, 18, 19, 20, 21, 22, 23, 24, 25, 26, 27, 28, 29, 30, 31, 32, 33, 34, 35, 36, 37, 38, 39, 40, 41, 42, 43, 44, 45, 46, 47, 48] (by decide +kernel) (by decide +kernel)
set_option maxRecDepth 20000 in
theorem gX5_cheapestRow_X5_steamToHideRow : GoodIn wsX5_cheapestRow (wsV RX5 64 RX5 yX5_steamToHideRow wsX5_steamToHideRow) := goodIn_app (goodIn_of _ (by decide +kernel)) ggX5_cheapestRow_X5_steamToHideRow
theorem dX5_cheapestRow_0 : decode cX5_cheapestRow 0 = .ok (.iconst (-1), 1) := by decide +kernel
theorem dX5_cheapestRow_1 : decode cX5_cheapestRow 1 = .ok (.istore_n 1, 1) := by decide +kernel
theorem dX5_cheapestRow_2 : decode cX5_cheapestRow 2 = .ok (.ldc 41, 2) := by decide +kernel
theorem dX5_cheapestRow_4 : decode cX5_cheapestRow 4 = .ok (.istore_n 2, 1) := by decide +kernel
theorem dX5_cheapestRow_5 : decode cX5_cheapestRow 5 = .ok (.iconst 0, 1) := by decide +kernel
theorem dX5_cheapestRow_6 : decode cX5_cheapestRow 6 = .ok (.istore_n 3, 1) := by decide +kernel
theorem dX5_cheapestRow_7 : decode cX5_cheapestRow 7 = .ok (.iload_n 3, 1) := by decide +kernel
theorem dX5_cheapestRow_8 : decode cX5_cheapestRow 8 = .ok (.bipush 6, 2) := by decide +kernel
theorem dX5_cheapestRow_10 : decode cX5_cheapestRow 10 = .ok (.if_icmp .ge 32, 3) := by decide +kernel
theorem dX5_cheapestRow_13 : decode cX5_cheapestRow 13 = .ok (.aload_n 0, 1) := by decide +kernel
theorem dX5_cheapestRow_14 : decode cX5_cheapestRow 14 = .ok (.iload_n 3, 1) := by decide +kernel
theorem dX5_cheapestRow_15 : decode cX5_cheapestRow 15 = .ok (.invokevirtual 64, 3) := by decide +kernel
theorem dX5_cheapestRow_18 : decode cX5_cheapestRow 18 = .ok (.istore 4, 2) := by decide +kernel
theorem dX5_cheapestRow_20 : decode cX5_cheapestRow 20 = .ok (.iload 4, 2) := by decide +kernel
theorem dX5_cheapestRow_22 : decode cX5_cheapestRow 22 = .ok (.ifCond .lt 14, 3) := by decide +kernel
theorem dX5_cheapestRow_25 : decode cX5_cheapestRow 25 = .ok (.iload 4, 2) := by decide +kernel
theorem dX5_cheapestRow_27 : decode cX5_cheapestRow 27 = .ok (.iload_n 2, 1) := by decide +kernel
theorem dX5_cheapestRow_28 : decode cX5_cheapestRow 28 = .ok (.if_icmp .ge 8, 3) := by decide +kernel
theorem dX5_cheapestRow_31 : decode cX5_cheapestRow 31 = .ok (.iload_n 3, 1) := by decide +kernel
theorem dX5_cheapestRow_32 : decode cX5_cheapestRow 32 = .ok (.istore_n 1, 1) := by decide +kernel
theorem dX5_cheapestRow_33 : decode cX5_cheapestRow 33 = .ok (.iload 4, 2) := by decide +kernel
theorem dX5_cheapestRow_35 : decode cX5_cheapestRow 35 = .ok (.istore_n 2, 1) := by decide +kernel
theorem dX5_cheapestRow_36 : decode cX5_cheapestRow 36 = .ok (.iinc 3 1, 3) := by decide +kernel
theorem dX5_cheapestRow_39 : decode cX5_cheapestRow 39 = .ok (.goto (-32), 3) := by decide +kernel
theorem dX5_cheapestRow_42 : decode cX5_cheapestRow 42 = .ok (.iload_n 1, 1) := by decide +kernel
theorem dX5_cheapestRow_43 : decode cX5_cheapestRow 43 = .ok (.ireturn, 1) := by decide +kernel
set_option maxRecDepth 20000 in
theorem ggX5_steamToHideRow_X6_steamToHide : GoodIn wsX5_steamToHideRow wsX6_steamToHide := goodIn_r _ [6, 7, 8, 9, 10, 11, 12, 13, 14, 15, 16, 17, 18, 19, 20, 21, 22, 23, 24, 25, 26, 29, 30, 31, 32, 33, 34, 35, 36, 37, 38, 39, 40, 41, 42] (by decide +kernel) (by decide +kernel)
set_option maxRecDepth 20000 in
theorem gX5_steamToHideRow_X6_steamToHide : GoodIn wsX5_steamToHideRow (wsV RX5 53 RX6 yX6_steamToHide wsX6_steamToHide) := goodIn_app (goodIn_of _ (by decide +kernel)) ggX5_steamToHideRow_X6_steamToHide
theorem dX5_steamToHideRow_0 : decode cX5_steamToHideRow 0 = .ok (.iconst 0, 1) := by decide +kernel
theorem dX5_steamToHideRow_1 : decode cX5_steamToHideRow 1 = .ok (.istore_n 2, 1) := by decide +kernel
theorem dX5_steamToHideRow_2 : decode cX5_steamToHideRow 2 = .ok (.iconst 0, 1) := by decide +kernel
theorem dX5_steamToHideRow_3 : decode cX5_steamToHideRow 3 = .ok (.istore_n 3, 1) := by decide +kernel
theorem dX5_steamToHideRow_4 : decode cX5_steamToHideRow 4 = .ok (.iload_n 3, 1) := by decide +kernel
theorem dX5_steamToHideRow_5 : decode cX5_steamToHideRow 5 = .ok (.bipush 8, 2) := by decide +kernel
theorem dX5_steamToHideRow_7 : decode cX5_steamToHideRow 7 = .ok (.if_icmp .ge 36, 3) := by decide +kernel
theorem dX5_steamToHideRow_10 : decode cX5_steamToHideRow 10 = .ok (.aload_n 0, 1) := by decide +kernel
theorem dX5_steamToHideRow_11 : decode cX5_steamToHideRow 11 = .ok (.getfield 7, 3) := by decide +kernel
theorem dX5_steamToHideRow_14 : decode cX5_steamToHideRow 14 = .ok (.iload_n 1, 1) := by decide +kernel
theorem dX5_steamToHideRow_15 : decode cX5_steamToHideRow 15 = .ok (.bipush 8, 2) := by decide +kernel
theorem dX5_steamToHideRow_17 : decode cX5_steamToHideRow 17 = .ok (.imul, 1) := by decide +kernel
theorem dX5_steamToHideRow_18 : decode cX5_steamToHideRow 18 = .ok (.iload_n 3, 1) := by decide +kernel
theorem dX5_steamToHideRow_19 : decode cX5_steamToHideRow 19 = .ok (.iadd, 1) := by decide +kernel
theorem dX5_steamToHideRow_20 : decode cX5_steamToHideRow 20 = .ok (.invokevirtual 53, 3) := by decide +kernel
theorem dX5_steamToHideRow_23 : decode cX5_steamToHideRow 23 = .ok (.istore 4, 2) := by decide +kernel
theorem dX5_steamToHideRow_25 : decode cX5_steamToHideRow 25 = .ok (.iload 4, 2) := by decide +kernel
theorem dX5_steamToHideRow_27 : decode cX5_steamToHideRow 27 = .ok (.ifCond .ge 5, 3) := by decide +kernel
theorem dX5_steamToHideRow_30 : decode cX5_steamToHideRow 30 = .ok (.iconst (-1), 1) := by decide +kernel
theorem dX5_steamToHideRow_31 : decode cX5_steamToHideRow 31 = .ok (.ireturn, 1) := by decide +kernel
theorem dX5_steamToHideRow_32 : decode cX5_steamToHideRow 32 = .ok (.iload_n 2, 1) := by decide +kernel
theorem dX5_steamToHideRow_33 : decode cX5_steamToHideRow 33 = .ok (.iload 4, 2) := by decide +kernel
theorem dX5_steamToHideRow_35 : decode cX5_steamToHideRow 35 = .ok (.iadd, 1) := by decide +kernel
theorem dX5_steamToHideRow_36 : decode cX5_steamToHideRow 36 = .ok (.istore_n 2, 1) := by decide +kernel
theorem dX5_steamToHideRow_37 : decode cX5_steamToHideRow 37 = .ok (.iinc 3 1, 3) := by decide +kernel
theorem dX5_steamToHideRow_40 : decode cX5_steamToHideRow 40 = .ok (.goto (-36), 3) := by decide +kernel
theorem dX5_steamToHideRow_43 : decode cX5_steamToHideRow 43 = .ok (.iload_n 2, 1) := by decide +kernel
theorem dX5_steamToHideRow_44 : decode cX5_steamToHideRow 44 = .ok (.ireturn, 1) := by decide +kernel
theorem dX6_init_0 : decode cX6_init 0 = .ok (.aload_n 0, 1) := by decide +kernel
theorem dX6_init_1 : decode cX6_init 1 = .ok (.invokespecial 3, 3) := by decide +kernel
theorem dX6_init_4 : decode cX6_init 4 = .ok (.aload_n 0, 1) := by decide +kernel
theorem dX6_init_5 : decode cX6_init 5 = .ok (.bipush 48, 2) := by decide +kernel
theorem dX6_init_7 : decode cX6_init 7 = .ok (.newarray .int, 2) := by decide +kernel
theorem dX6_init_9 : decode cX6_init 9 = .ok (.putfield 11, 3) := by decide +kernel
theorem dX6_init_12 : decode cX6_init 12 = .ok (.aload_n 0, 1) := by decide +kernel
theorem dX6_init_13 : decode cX6_init 13 = .ok (.bipush 48, 2) := by decide +kernel
theorem dX6_init_15 : decode cX6_init 15 = .ok (.newarray .int, 2) := by decide +kernel
theorem dX6_init_17 : decode cX6_init 17 = .ok (.putfield 17, 3) := by decide +kernel
theorem dX6_init_20 : decode cX6_init 20 = .ok (.aload_n 0, 1) := by decide +kernel
theorem dX6_init_21 : decode cX6_init 21 = .ok (.iconst 4, 1) := by decide +kernel
theorem dX6_init_22 : decode cX6_init 22 = .ok (.newarray .int, 2) := by decide +kernel
theorem dX6_init_24 : decode cX6_init 24 = .ok (.putfield 20, 3) := by decide +kernel
theorem dX6_init_27 : decode cX6_init 27 = .ok (.aload_n 0, 1) := by decide +kernel
theorem dX6_init_28 : decode cX6_init 28 = .ok (.bipush 8, 2) := by decide +kernel
theorem dX6_init_30 : decode cX6_init 30 = .ok (.newarray .int, 2) := by decide +kernel
theorem dX6_init_32 : decode cX6_init 32 = .ok (.putfield 23, 3) := by decide +kernel
theorem dX6_init_35 : decode cX6_init 35 = .ok (.aload_n 0, 1) := by decide +kernel
theorem dX6_init_36 : decode cX6_init 36 = .ok (.bipush 8, 2) := by decide +kernel
theorem dX6_init_38 : decode cX6_init 38 = .ok (.newarray .int, 2) := by decide +kernel
theorem dX6_init_40 : decode cX6_init 40 = .ok (.putfield 26, 3) := by decide +kernel
theorem dX6_init_43 : decode cX6_init 43 = .ok (.aload_n 0, 1) := by decide +kernel
theorem dX6_init_44 : decode cX6_init 44 = .ok (.bipush 8, 2) := by decide +kernel
theorem dX6_init_46 : decode cX6_init 46 = .ok (.newarray .int, 2) := by decide +kernel
theorem dX6_init_48 : decode cX6_init 48 = .ok (.putfield 29, 3) := by decide +kernel
theorem dX6_init_51 : decode cX6_init 51 = .ok (.aload_n 0, 1) := by decide +kernel
theorem dX6_init_52 : decode cX6_init 52 = .ok (.bipush 8, 2) := by decide +kernel
theorem dX6_init_54 : decode cX6_init 54 = .ok (.newarray .int, 2) := by decide +kernel
theorem dX6_init_56 : decode cX6_init 56 = .ok (.putfield 32, 3) := by decide +kernel
theorem dX6_init_59 : decode cX6_init 59 = .ok (.aload_n 0, 1) := by decide +kernel
theorem dX6_init_60 : decode cX6_init 60 = .ok (.bipush 8, 2) := by decide +kernel
theorem dX6_init_62 : decode cX6_init 62 = .ok (.newarray .int, 2) := by decide +kernel
theorem dX6_init_64 : decode cX6_init 64 = .ok (.putfield 35, 3) := by decide +kernel
theorem dX6_init_67 : decode cX6_init 67 = .ok (.aload_n 0, 1) := by decide +kernel
theorem dX6_init_68 : decode cX6_init 68 = .ok (.bipush 10, 2) := by decide +kernel
theorem dX6_init_70 : decode cX6_init 70 = .ok (.newarray .int, 2) := by decide +kernel
theorem dX6_init_72 : decode cX6_init 72 = .ok (.putfield 38, 3) := by decide +kernel
theorem dX6_init_75 : decode cX6_init 75 = .ok (.iconst 0, 1) := by decide +kernel
theorem dX6_init_76 : decode cX6_init 76 = .ok (.istore_n 1, 1) := by decide +kernel
theorem dX6_init_77 : decode cX6_init 77 = .ok (.iload_n 1, 1) := by decide +kernel
theorem dX6_init_78 : decode cX6_init 78 = .ok (.iconst 4, 1) := by decide +kernel
theorem dX6_init_79 : decode cX6_init 79 = .ok (.if_icmp .ge 16, 3) := by decide +kernel
theorem dX6_init_82 : decode cX6_init 82 = .ok (.aload_n 0, 1) := by decide +kernel
theorem dX6_init_83 : decode cX6_init 83 = .ok (.getfield 20, 3) := by decide +kernel
theorem dX6_init_86 : decode cX6_init 86 = .ok (.iload_n 1, 1) := by decide +kernel
theorem dX6_init_87 : decode cX6_init 87 = .ok (.iconst (-1), 1) := by decide +kernel
theorem dX6_init_88 : decode cX6_init 88 = .ok (.iastore, 1) := by decide +kernel
theorem dX6_init_89 : decode cX6_init 89 = .ok (.iinc 1 1, 3) := by decide +kernel
theorem dX6_init_92 : decode cX6_init 92 = .ok (.goto (-15), 3) := by decide +kernel
theorem dX6_init_95 : decode cX6_init 95 = .ok (.iconst 0, 1) := by decide +kernel
theorem dX6_init_96 : decode cX6_init 96 = .ok (.istore_n 1, 1) := by decide +kernel
theorem dX6_init_97 : decode cX6_init 97 = .ok (.iload_n 1, 1) := by decide +kernel
theorem dX6_init_98 : decode cX6_init 98 = .ok (.bipush 10, 2) := by decide +kernel
theorem dX6_init_100 : decode cX6_init 100 = .ok (.if_icmp .ge 16, 3) := by decide +kernel
theorem dX6_init_103 : decode cX6_init 103 = .ok (.aload_n 0, 1) := by decide +kernel
theorem dX6_init_104 : decode cX6_init 104 = .ok (.getfield 38, 3) := by decide +kernel
theorem dX6_init_107 : decode cX6_init 107 = .ok (.iload_n 1, 1) := by decide +kernel
theorem dX6_init_108 : decode cX6_init 108 = .ok (.iconst (-1), 1) := by decide +kernel
theorem dX6_init_109 : decode cX6_init 109 = .ok (.iastore, 1) := by decide +kernel
theorem dX6_init_110 : decode cX6_init 110 = .ok (.iinc 1 1, 3) := by decide +kernel
theorem dX6_init_113 : decode cX6_init 113 = .ok (.goto (-16), 3) := by decide +kernel
theorem dX6_init_116 : decode cX6_init 116 = .ok (.aload_n 0, 1) := by decide +kernel
theorem dX6_init_117 : decode cX6_init 117 = .ok (.iconst 4, 1) := by decide +kernel
theorem dX6_init_118 : decode cX6_init 118 = .ok (.putfield 41, 3) := by decide +kernel
theorem dX6_init_121 : decode cX6_init 121 = .ok (.aload_n 0, 1) := by decide +kernel
theorem dX6_init_122 : decode cX6_init 122 = .ok (.iconst 1, 1) := by decide +kernel
theorem dX6_init_123 : decode cX6_init 123 = .ok (.putfield 45, 3) := by decide +kernel
theorem dX6_init_126 : decode cX6_init 126 = .ok (.return_, 1) := by decide +kernel
theorem dX6_become_0 : decode cX6_become 0 = .ok (.aload_n 1, 1) := by decide +kernel
theorem dX6_become_1 : decode cX6_become 1 = .ok (.getfield 11, 3) := by decide +kernel
theorem dX6_become_4 : decode cX6_become 4 = .ok (.iconst 0, 1) := by decide +kernel
theorem dX6_become_5 : decode cX6_become 5 = .ok (.aload_n 0, 1) := by decide +kernel
theorem dX6_become_6 : decode cX6_become 6 = .ok (.getfield 11, 3) := by decide +kernel
theorem dX6_become_9 : decode cX6_become 9 = .ok (.iconst 0, 1) := by decide +kernel
theorem dX6_become_10 : decode cX6_become 10 = .ok (.bipush 48, 2) := by decide +kernel
theorem dX6_become_12 : decode cX6_become 12 = .ok (.invokestatic 48, 3) := by decide +kernel
theorem dX6_become_15 : decode cX6_become 15 = .ok (.aload_n 1, 1) := by decide +kernel
theorem dX6_become_16 : decode cX6_become 16 = .ok (.getfield 17, 3) := by decide +kernel
theorem dX6_become_19 : decode cX6_become 19 = .ok (.iconst 0, 1) := by decide +kernel
theorem dX6_become_20 : decode cX6_become 20 = .ok (.aload_n 0, 1) := by decide +kernel
theorem dX6_become_21 : decode cX6_become 21 = .ok (.getfield 17, 3) := by decide +kernel
theorem dX6_become_24 : decode cX6_become 24 = .ok (.iconst 0, 1) := by decide +kernel
theorem dX6_become_25 : decode cX6_become 25 = .ok (.bipush 48, 2) := by decide +kernel
theorem dX6_become_27 : decode cX6_become 27 = .ok (.invokestatic 48, 3) := by decide +kernel
theorem dX6_become_30 : decode cX6_become 30 = .ok (.aload_n 1, 1) := by decide +kernel
theorem dX6_become_31 : decode cX6_become 31 = .ok (.getfield 20, 3) := by decide +kernel
theorem dX6_become_34 : decode cX6_become 34 = .ok (.iconst 0, 1) := by decide +kernel
theorem dX6_become_35 : decode cX6_become 35 = .ok (.aload_n 0, 1) := by decide +kernel
theorem dX6_become_36 : decode cX6_become 36 = .ok (.getfield 20, 3) := by decide +kernel
theorem dX6_become_39 : decode cX6_become 39 = .ok (.iconst 0, 1) := by decide +kernel
theorem dX6_become_40 : decode cX6_become 40 = .ok (.iconst 4, 1) := by decide +kernel
theorem dX6_become_41 : decode cX6_become 41 = .ok (.invokestatic 48, 3) := by decide +kernel
theorem dX6_become_44 : decode cX6_become 44 = .ok (.aload_n 1, 1) := by decide +kernel
theorem dX6_become_45 : decode cX6_become 45 = .ok (.getfield 23, 3) := by decide +kernel
theorem dX6_become_48 : decode cX6_become 48 = .ok (.iconst 0, 1) := by decide +kernel
theorem dX6_become_49 : decode cX6_become 49 = .ok (.aload_n 0, 1) := by decide +kernel
theorem dX6_become_50 : decode cX6_become 50 = .ok (.getfield 23, 3) := by decide +kernel
theorem dX6_become_53 : decode cX6_become 53 = .ok (.iconst 0, 1) := by decide +kernel
theorem dX6_become_54 : decode cX6_become 54 = .ok (.bipush 8, 2) := by decide +kernel
theorem dX6_become_56 : decode cX6_become 56 = .ok (.invokestatic 48, 3) := by decide +kernel
theorem dX6_become_59 : decode cX6_become 59 = .ok (.aload_n 1, 1) := by decide +kernel
theorem dX6_become_60 : decode cX6_become 60 = .ok (.getfield 26, 3) := by decide +kernel
theorem dX6_become_63 : decode cX6_become 63 = .ok (.iconst 0, 1) := by decide +kernel
theorem dX6_become_64 : decode cX6_become 64 = .ok (.aload_n 0, 1) := by decide +kernel
theorem dX6_become_65 : decode cX6_become 65 = .ok (.getfield 26, 3) := by decide +kernel
theorem dX6_become_68 : decode cX6_become 68 = .ok (.iconst 0, 1) := by decide +kernel
theorem dX6_become_69 : decode cX6_become 69 = .ok (.bipush 8, 2) := by decide +kernel
theorem dX6_become_71 : decode cX6_become 71 = .ok (.invokestatic 48, 3) := by decide +kernel
theorem dX6_become_74 : decode cX6_become 74 = .ok (.aload_n 1, 1) := by decide +kernel
theorem dX6_become_75 : decode cX6_become 75 = .ok (.getfield 29, 3) := by decide +kernel
theorem dX6_become_78 : decode cX6_become 78 = .ok (.iconst 0, 1) := by decide +kernel
theorem dX6_become_79 : decode cX6_become 79 = .ok (.aload_n 0, 1) := by decide +kernel
theorem dX6_become_80 : decode cX6_become 80 = .ok (.getfield 29, 3) := by decide +kernel
theorem dX6_become_83 : decode cX6_become 83 = .ok (.iconst 0, 1) := by decide +kernel
theorem dX6_become_84 : decode cX6_become 84 = .ok (.bipush 8, 2) := by decide +kernel
theorem dX6_become_86 : decode cX6_become 86 = .ok (.invokestatic 48, 3) := by decide +kernel
theorem dX6_become_89 : decode cX6_become 89 = .ok (.aload_n 1, 1) := by decide +kernel
theorem dX6_become_90 : decode cX6_become 90 = .ok (.getfield 32, 3) := by decide +kernel
theorem dX6_become_93 : decode cX6_become 93 = .ok (.iconst 0, 1) := by decide +kernel
theorem dX6_become_94 : decode cX6_become 94 = .ok (.aload_n 0, 1) := by decide +kernel
theorem dX6_become_95 : decode cX6_become 95 = .ok (.getfield 32, 3) := by decide +kernel
theorem dX6_become_98 : decode cX6_become 98 = .ok (.iconst 0, 1) := by decide +kernel
theorem dX6_become_99 : decode cX6_become 99 = .ok (.bipush 8, 2) := by decide +kernel
theorem dX6_become_101 : decode cX6_become 101 = .ok (.invokestatic 48, 3) := by decide +kernel
theorem dX6_become_104 : decode cX6_become 104 = .ok (.aload_n 1, 1) := by decide +kernel
theorem dX6_become_105 : decode cX6_become 105 = .ok (.getfield 35, 3) := by decide +kernel
theorem dX6_become_108 : decode cX6_become 108 = .ok (.iconst 0, 1) := by decide +kernel
theorem dX6_become_109 : decode cX6_become 109 = .ok (.aload_n 0, 1) := by decide +kernel
theorem dX6_become_110 : decode cX6_become 110 = .ok (.getfield 35, 3) := by decide +kernel
theorem dX6_become_113 : decode cX6_become 113 = .ok (.iconst 0, 1) := by decide +kernel
theorem dX6_become_114 : decode cX6_become 114 = .ok (.bipush 8, 2) := by decide +kernel
theorem dX6_become_116 : decode cX6_become 116 = .ok (.invokestatic 48, 3) := by decide +kernel
theorem dX6_become_119 : decode cX6_become 119 = .ok (.aload_n 1, 1) := by decide +kernel
theorem dX6_become_120 : decode cX6_become 120 = .ok (.getfield 38, 3) := by decide +kernel
theorem dX6_become_123 : decode cX6_become 123 = .ok (.iconst 0, 1) := by decide +kernel
theorem dX6_become_124 : decode cX6_become 124 = .ok (.aload_n 0, 1) := by decide +kernel
theorem dX6_become_125 : decode cX6_become 125 = .ok (.getfield 38, 3) := by decide +kernel
theorem dX6_become_128 : decode cX6_become 128 = .ok (.iconst 0, 1) := by decide +kernel
theorem dX6_become_129 : decode cX6_become 129 = .ok (.bipush 10, 2) := by decide +kernel
theorem dX6_become_131 : decode cX6_become 131 = .ok (.invokestatic 48, 3) := by decide +kernel
theorem dX6_become_134 : decode cX6_become 134 = .ok (.aload_n 0, 1) := by decide +kernel
theorem dX6_become_135 : decode cX6_become 135 = .ok (.aload_n 1, 1) := by decide +kernel
theorem dX6_become_136 : decode cX6_become 136 = .ok (.getfield 41, 3) := by decide +kernel
theorem dX6_become_139 : decode cX6_become 139 = .ok (.putfield 41, 3) := by decide +kernel
theorem dX6_become_142 : decode cX6_become 142 = .ok (.aload_n 0, 1) := by decide +kernel
theorem dX6_become_143 : decode cX6_become 143 = .ok (.aload_n 1, 1) := by decide +kernel
theorem dX6_become_144 : decode cX6_become 144 = .ok (.getfield 54, 3) := by decide +kernel
theorem dX6_become_147 : decode cX6_become 147 = .ok (.putfield 54, 3) := by decide +kernel
theorem dX6_become_150 : decode cX6_become 150 = .ok (.aload_n 0, 1) := by decide +kernel
theorem dX6_become_151 : decode cX6_become 151 = .ok (.aload_n 1, 1) := by decide +kernel
theorem dX6_become_152 : decode cX6_become 152 = .ok (.getfield 57, 3) := by decide +kernel
theorem dX6_become_155 : decode cX6_become 155 = .ok (.putfield 57, 3) := by decide +kernel
theorem dX6_become_158 : decode cX6_become 158 = .ok (.aload_n 0, 1) := by decide +kernel
theorem dX6_become_159 : decode cX6_become 159 = .ok (.aload_n 1, 1) := by decide +kernel
theorem dX6_become_160 : decode cX6_become 160 = .ok (.getfield 60, 3) := by decide +kernel
theorem dX6_become_163 : decode cX6_become 163 = .ok (.putfield 60, 3) := by decide +kernel
theorem dX6_become_166 : decode cX6_become 166 = .ok (.aload_n 0, 1) := by decide +kernel
theorem dX6_become_167 : decode cX6_become 167 = .ok (.aload_n 1, 1) := by decide +kernel
theorem dX6_become_168 : decode cX6_become 168 = .ok (.getfield 45, 3) := by decide +kernel
theorem dX6_become_171 : decode cX6_become 171 = .ok (.putfield 45, 3) := by decide +kernel
theorem dX6_become_174 : decode cX6_become 174 = .ok (.return_, 1) := by decide +kernel
theorem dX6_admit_0 : decode cX6_admit 0 = .ok (.aload_n 0, 1) := by decide +kernel
theorem dX6_admit_1 : decode cX6_admit 1 = .ok (.getfield 54, 3) := by decide +kernel
theorem dX6_admit_4 : decode cX6_admit 4 = .ok (.istore_n 3, 1) := by decide +kernel
theorem dX6_admit_5 : decode cX6_admit 5 = .ok (.aload_n 0, 1) := by decide +kernel
theorem dX6_admit_6 : decode cX6_admit 6 = .ok (.getfield 23, 3) := by decide +kernel
theorem dX6_admit_9 : decode cX6_admit 9 = .ok (.iload_n 3, 1) := by decide +kernel
theorem dX6_admit_10 : decode cX6_admit 10 = .ok (.iload_n 1, 1) := by decide +kernel
theorem dX6_admit_11 : decode cX6_admit 11 = .ok (.iastore, 1) := by decide +kernel
theorem dX6_admit_12 : decode cX6_admit 12 = .ok (.aload_n 0, 1) := by decide +kernel
theorem dX6_admit_13 : decode cX6_admit 13 = .ok (.getfield 26, 3) := by decide +kernel
theorem dX6_admit_16 : decode cX6_admit 16 = .ok (.iload_n 3, 1) := by decide +kernel
theorem dX6_admit_17 : decode cX6_admit 17 = .ok (.iload_n 2, 1) := by decide +kernel
theorem dX6_admit_18 : decode cX6_admit 18 = .ok (.iastore, 1) := by decide +kernel
theorem dX6_admit_19 : decode cX6_admit 19 = .ok (.aload_n 0, 1) := by decide +kernel
theorem dX6_admit_20 : decode cX6_admit 20 = .ok (.getfield 29, 3) := by decide +kernel
theorem dX6_admit_23 : decode cX6_admit 23 = .ok (.iload_n 3, 1) := by decide +kernel
theorem dX6_admit_24 : decode cX6_admit 24 = .ok (.iconst 0, 1) := by decide +kernel
theorem dX6_admit_25 : decode cX6_admit 25 = .ok (.iastore, 1) := by decide +kernel
theorem dX6_admit_26 : decode cX6_admit 26 = .ok (.aload_n 0, 1) := by decide +kernel
theorem dX6_admit_27 : decode cX6_admit 27 = .ok (.getfield 32, 3) := by decide +kernel
theorem dX6_admit_30 : decode cX6_admit 30 = .ok (.iload_n 3, 1) := by decide +kernel
theorem dX6_admit_31 : decode cX6_admit 31 = .ok (.iconst 0, 1) := by decide +kernel
theorem dX6_admit_32 : decode cX6_admit 32 = .ok (.iastore, 1) := by decide +kernel
theorem dX6_admit_33 : decode cX6_admit 33 = .ok (.aload_n 0, 1) := by decide +kernel
theorem dX6_admit_34 : decode cX6_admit 34 = .ok (.getfield 35, 3) := by decide +kernel
theorem dX6_admit_37 : decode cX6_admit 37 = .ok (.iload_n 3, 1) := by decide +kernel
theorem dX6_admit_38 : decode cX6_admit 38 = .ok (.iload_n 3, 1) := by decide +kernel
theorem dX6_admit_39 : decode cX6_admit 39 = .ok (.iastore, 1) := by decide +kernel
theorem dX6_admit_40 : decode cX6_admit 40 = .ok (.aload_n 0, 1) := by decide +kernel
theorem dX6_admit_41 : decode cX6_admit 41 = .ok (.dup, 1) := by decide +kernel
theorem dX6_admit_42 : decode cX6_admit 42 = .ok (.getfield 54, 3) := by decide +kernel
theorem dX6_admit_45 : decode cX6_admit 45 = .ok (.iconst 1, 1) := by decide +kernel
theorem dX6_admit_46 : decode cX6_admit 46 = .ok (.iadd, 1) := by decide +kernel
theorem dX6_admit_47 : decode cX6_admit 47 = .ok (.putfield 54, 3) := by decide +kernel
theorem dX6_admit_50 : decode cX6_admit 50 = .ok (.iload_n 3, 1) := by decide +kernel
theorem dX6_admit_51 : decode cX6_admit 51 = .ok (.ireturn, 1) := by decide +kernel
theorem dX6_draw_0 : decode cX6_draw 0 = .ok (.aload_n 0, 1) := by decide +kernel
theorem dX6_draw_1 : decode cX6_draw 1 = .ok (.aload_n 0, 1) := by decide +kernel
theorem dX6_draw_2 : decode cX6_draw 2 = .ok (.getfield 45, 3) := by decide +kernel
theorem dX6_draw_5 : decode cX6_draw 5 = .ok (.ldc 63, 2) := by decide +kernel
theorem dX6_draw_7 : decode cX6_draw 7 = .ok (.imul, 1) := by decide +kernel
theorem dX6_draw_8 : decode cX6_draw 8 = .ok (.sipush 12345, 3) := by decide +kernel
theorem dX6_draw_11 : decode cX6_draw 11 = .ok (.iadd, 1) := by decide +kernel
theorem dX6_draw_12 : decode cX6_draw 12 = .ok (.putfield 45, 3) := by decide +kernel
theorem dX6_draw_15 : decode cX6_draw 15 = .ok (.aload_n 0, 1) := by decide +kernel
theorem dX6_draw_16 : decode cX6_draw 16 = .ok (.getfield 45, 3) := by decide +kernel
theorem dX6_draw_19 : decode cX6_draw 19 = .ok (.bipush 8, 2) := by decide +kernel
theorem dX6_draw_21 : decode cX6_draw 21 = .ok (.iushr, 1) := by decide +kernel
theorem dX6_draw_22 : decode cX6_draw 22 = .ok (.ireturn, 1) := by decide +kernel
set_option maxRecDepth 20000 in
theorem ggX6_seenFrom_X0_apart : GoodIn wsX6_seenFrom wsX0_apart := goodIn_r _ [5, 6, 7, 8, 9, 10, 11, 4, 12, 13, 14, 15] (by decide +kernel) (by decide +kernel)
set_option maxRecDepth 20000 in
theorem gX6_seenFrom_X0_apart : GoodIn wsX6_seenFrom (va_wsS RX6 64 yX0_apart wsX0_apart) := goodIn_app (goodIn_of _ (by decide +kernel)) ggX6_seenFrom_X0_apart
theorem dX6_seenFrom_0 : decode cX6_seenFrom 0 = .ok (.lconst 0, 1) := by decide +kernel
theorem dX6_seenFrom_1 : decode cX6_seenFrom 1 = .ok (.lstore_n 3, 1) := by decide +kernel
theorem dX6_seenFrom_2 : decode cX6_seenFrom 2 = .ok (.iload_n 1, 1) := by decide +kernel
theorem dX6_seenFrom_3 : decode cX6_seenFrom 3 = .ok (.ifCond .ge 5, 3) := by decide +kernel
theorem dX6_seenFrom_6 : decode cX6_seenFrom 6 = .ok (.lload_n 3, 1) := by decide +kernel
theorem dX6_seenFrom_7 : decode cX6_seenFrom 7 = .ok (.lreturn, 1) := by decide +kernel
theorem dX6_seenFrom_8 : decode cX6_seenFrom 8 = .ok (.iconst 0, 1) := by decide +kernel
theorem dX6_seenFrom_9 : decode cX6_seenFrom 9 = .ok (.istore 5, 2) := by decide +kernel
theorem dX6_seenFrom_11 : decode cX6_seenFrom 11 = .ok (.iload 5, 2) := by decide +kernel
theorem dX6_seenFrom_13 : decode cX6_seenFrom 13 = .ok (.bipush 48, 2) := by decide +kernel
theorem dX6_seenFrom_15 : decode cX6_seenFrom 15 = .ok (.if_icmp .ge 34, 3) := by decide +kernel
theorem dX6_seenFrom_18 : decode cX6_seenFrom 18 = .ok (.iload_n 1, 1) := by decide +kernel
theorem dX6_seenFrom_19 : decode cX6_seenFrom 19 = .ok (.iload 5, 2) := by decide +kernel
theorem dX6_seenFrom_21 : decode cX6_seenFrom 21 = .ok (.invokestatic 64, 3) := by decide +kernel
theorem dX6_seenFrom_24 : decode cX6_seenFrom 24 = .ok (.iload_n 2, 1) := by decide +kernel
theorem dX6_seenFrom_25 : decode cX6_seenFrom 25 = .ok (.aload_n 0, 1) := by decide +kernel
theorem dX6_seenFrom_26 : decode cX6_seenFrom 26 = .ok (.getfield 11, 3) := by decide +kernel
theorem dX6_seenFrom_29 : decode cX6_seenFrom 29 = .ok (.iload 5, 2) := by decide +kernel
theorem dX6_seenFrom_31 : decode cX6_seenFrom 31 = .ok (.iaload, 1) := by decide +kernel
theorem dX6_seenFrom_32 : decode cX6_seenFrom 32 = .ok (.isub, 1) := by decide +kernel
theorem dX6_seenFrom_33 : decode cX6_seenFrom 33 = .ok (.if_icmp .gt 10, 3) := by decide +kernel
theorem dX6_seenFrom_36 : decode cX6_seenFrom 36 = .ok (.lload_n 3, 1) := by decide +kernel
theorem dX6_seenFrom_37 : decode cX6_seenFrom 37 = .ok (.lconst 1, 1) := by decide +kernel
theorem dX6_seenFrom_38 : decode cX6_seenFrom 38 = .ok (.iload 5, 2) := by decide +kernel
theorem dX6_seenFrom_40 : decode cX6_seenFrom 40 = .ok (.lshl, 1) := by decide +kernel
theorem dX6_seenFrom_41 : decode cX6_seenFrom 41 = .ok (.lor, 1) := by decide +kernel
theorem dX6_seenFrom_42 : decode cX6_seenFrom 42 = .ok (.lstore_n 3, 1) := by decide +kernel
theorem dX6_seenFrom_43 : decode cX6_seenFrom 43 = .ok (.iinc 5 1, 3) := by decide +kernel
theorem dX6_seenFrom_46 : decode cX6_seenFrom 46 = .ok (.goto (-35), 3) := by decide +kernel
theorem dX6_seenFrom_49 : decode cX6_seenFrom 49 = .ok (.lload_n 3, 1) := by decide +kernel
theorem dX6_seenFrom_50 : decode cX6_seenFrom 50 = .ok (.lreturn, 1) := by decide +kernel
set_option maxRecDepth 20000 in
theorem ggX6_seenCells_X6_seenFrom : GoodIn wsX6_seenCells wsX6_seenFrom := goodIn_r _ [6, 7, 8, 9, 10, 11, 12, 13, 14, 15, 16, 17, 18, 19, 20, 21, 22, 23, 24, 25, 26, 27, 28, 29, 30, 31, 32, 33, 34, 35] (by decide +kernel) (by decide +kernel)
set_option maxRecDepth 20000 in
theorem gX6_seenCells_X6_seenFrom : GoodIn wsX6_seenCells (wsV RX6 68 RX6 yX6_seenFrom wsX6_seenFrom) := goodIn_app (goodIn_of _ (by decide +kernel)) ggX6_seenCells_X6_seenFrom
theorem dX6_seenCells_0 : decode cX6_seenCells 0 = .ok (.lconst 0, 1) := by decide +kernel
theorem dX6_seenCells_1 : decode cX6_seenCells 1 = .ok (.lstore_n 2, 1) := by decide +kernel
theorem dX6_seenCells_2 : decode cX6_seenCells 2 = .ok (.iconst 0, 1) := by decide +kernel
theorem dX6_seenCells_3 : decode cX6_seenCells 3 = .ok (.istore 4, 2) := by decide +kernel
theorem dX6_seenCells_5 : decode cX6_seenCells 5 = .ok (.iload 4, 2) := by decide +kernel
theorem dX6_seenCells_7 : decode cX6_seenCells 7 = .ok (.iconst 4, 1) := by decide +kernel
theorem dX6_seenCells_8 : decode cX6_seenCells 8 = .ok (.if_icmp .ge 24, 3) := by decide +kernel
theorem dX6_seenCells_11 : decode cX6_seenCells 11 = .ok (.lload_n 2, 1) := by decide +kernel
theorem dX6_seenCells_12 : decode cX6_seenCells 12 = .ok (.aload_n 0, 1) := by decide +kernel
theorem dX6_seenCells_13 : decode cX6_seenCells 13 = .ok (.aload_n 0, 1) := by decide +kernel
theorem dX6_seenCells_14 : decode cX6_seenCells 14 = .ok (.getfield 20, 3) := by decide +kernel
theorem dX6_seenCells_17 : decode cX6_seenCells 17 = .ok (.iload 4, 2) := by decide +kernel
theorem dX6_seenCells_19 : decode cX6_seenCells 19 = .ok (.iaload, 1) := by decide +kernel
theorem dX6_seenCells_20 : decode cX6_seenCells 20 = .ok (.iload_n 1, 1) := by decide +kernel
theorem dX6_seenCells_21 : decode cX6_seenCells 21 = .ok (.invokevirtual 68, 3) := by decide +kernel
theorem dX6_seenCells_24 : decode cX6_seenCells 24 = .ok (.lor, 1) := by decide +kernel
theorem dX6_seenCells_25 : decode cX6_seenCells 25 = .ok (.lstore_n 2, 1) := by decide +kernel
theorem dX6_seenCells_26 : decode cX6_seenCells 26 = .ok (.iinc 4 1, 3) := by decide +kernel
theorem dX6_seenCells_29 : decode cX6_seenCells 29 = .ok (.goto (-24), 3) := by decide +kernel
theorem dX6_seenCells_32 : decode cX6_seenCells 32 = .ok (.lload_n 2, 1) := by decide +kernel
theorem dX6_seenCells_33 : decode cX6_seenCells 33 = .ok (.lreturn, 1) := by decide +kernel
set_option maxRecDepth 20000 in
theorem ggX6_seenByOthers_X6_seenFrom : GoodIn wsX6_seenByOthers wsX6_seenFrom := goodIn_r _ [7, 8, 9, 10, 11, 12, 13, 14, 15, 16, 17, 18, 19, 20, 21, 22, 23, 24, 25, 26, 27, 28, 29, 30, 31, 32, 33, 34, 35, 36] (by decide +kernel) (by decide +kernel)
set_option maxRecDepth 20000 in
theorem gX6_seenByOthers_X6_seenFrom : GoodIn wsX6_seenByOthers (wsV RX6 68 RX6 yX6_seenFrom wsX6_seenFrom) := goodIn_app (goodIn_of _ (by decide +kernel)) ggX6_seenByOthers_X6_seenFrom
theorem dX6_seenByOthers_0 : decode cX6_seenByOthers 0 = .ok (.lconst 0, 1) := by decide +kernel
theorem dX6_seenByOthers_1 : decode cX6_seenByOthers 1 = .ok (.lstore_n 2, 1) := by decide +kernel
theorem dX6_seenByOthers_2 : decode cX6_seenByOthers 2 = .ok (.iconst 0, 1) := by decide +kernel
theorem dX6_seenByOthers_3 : decode cX6_seenByOthers 3 = .ok (.istore 4, 2) := by decide +kernel
theorem dX6_seenByOthers_5 : decode cX6_seenByOthers 5 = .ok (.iload 4, 2) := by decide +kernel
theorem dX6_seenByOthers_7 : decode cX6_seenByOthers 7 = .ok (.iconst 4, 1) := by decide +kernel
theorem dX6_seenByOthers_8 : decode cX6_seenByOthers 8 = .ok (.if_icmp .ge 33, 3) := by decide +kernel
theorem dX6_seenByOthers_11 : decode cX6_seenByOthers 11 = .ok (.iload 4, 2) := by decide +kernel
theorem dX6_seenByOthers_13 : decode cX6_seenByOthers 13 = .ok (.iload_n 1, 1) := by decide +kernel
theorem dX6_seenByOthers_14 : decode cX6_seenByOthers 14 = .ok (.if_icmp .eq 21, 3) := by decide +kernel
theorem dX6_seenByOthers_17 : decode cX6_seenByOthers 17 = .ok (.lload_n 2, 1) := by decide +kernel
theorem dX6_seenByOthers_18 : decode cX6_seenByOthers 18 = .ok (.aload_n 0, 1) := by decide +kernel
theorem dX6_seenByOthers_19 : decode cX6_seenByOthers 19 = .ok (.aload_n 0, 1) := by decide +kernel
theorem dX6_seenByOthers_20 : decode cX6_seenByOthers 20 = .ok (.getfield 20, 3) := by decide +kernel
theorem dX6_seenByOthers_23 : decode cX6_seenByOthers 23 = .ok (.iload 4, 2) := by decide +kernel
theorem dX6_seenByOthers_25 : decode cX6_seenByOthers 25 = .ok (.iaload, 1) := by decide +kernel
theorem dX6_seenByOthers_26 : decode cX6_seenByOthers 26 = .ok (.aload_n 0, 1) := by decide +kernel
theorem dX6_seenByOthers_27 : decode cX6_seenByOthers 27 = .ok (.getfield 41, 3) := by decide +kernel
theorem dX6_seenByOthers_30 : decode cX6_seenByOthers 30 = .ok (.invokevirtual 68, 3) := by decide +kernel
theorem dX6_seenByOthers_33 : decode cX6_seenByOthers 33 = .ok (.lor, 1) := by decide +kernel
theorem dX6_seenByOthers_34 : decode cX6_seenByOthers 34 = .ok (.lstore_n 2, 1) := by decide +kernel
theorem dX6_seenByOthers_35 : decode cX6_seenByOthers 35 = .ok (.iinc 4 1, 3) := by decide +kernel
theorem dX6_seenByOthers_38 : decode cX6_seenByOthers 38 = .ok (.goto (-33), 3) := by decide +kernel
theorem dX6_seenByOthers_41 : decode cX6_seenByOthers 41 = .ok (.lload_n 2, 1) := by decide +kernel
theorem dX6_seenByOthers_42 : decode cX6_seenByOthers 42 = .ok (.lreturn, 1) := by decide +kernel
set_option maxRecDepth 20000 in
theorem ggX6_guardsWhoSee_X0_apart : GoodIn wsX6_guardsWhoSee wsX0_apart := goodIn_r _ [7, 8, 9, 10, 11, 12, 13, 6, 14, 15, 16, 17] (by decide +kernel) (by decide +kernel)
set_option maxRecDepth 20000 in
theorem gX6_guardsWhoSee_X0_apart : GoodIn wsX6_guardsWhoSee (va_wsS RX6 64 yX0_apart wsX0_apart) := goodIn_app (goodIn_of _ (by decide +kernel)) ggX6_guardsWhoSee_X0_apart
theorem dX6_guardsWhoSee_0 : decode cX6_guardsWhoSee 0 = .ok (.iconst 0, 1) := by decide +kernel
theorem dX6_guardsWhoSee_1 : decode cX6_guardsWhoSee 1 = .ok (.istore_n 2, 1) := by decide +kernel
theorem dX6_guardsWhoSee_2 : decode cX6_guardsWhoSee 2 = .ok (.iconst 0, 1) := by decide +kernel
theorem dX6_guardsWhoSee_3 : decode cX6_guardsWhoSee 3 = .ok (.istore_n 3, 1) := by decide +kernel
theorem dX6_guardsWhoSee_4 : decode cX6_guardsWhoSee 4 = .ok (.iload_n 3, 1) := by decide +kernel
theorem dX6_guardsWhoSee_5 : decode cX6_guardsWhoSee 5 = .ok (.iconst 4, 1) := by decide +kernel
theorem dX6_guardsWhoSee_6 : decode cX6_guardsWhoSee 6 = .ok (.if_icmp .ge 48, 3) := by decide +kernel
theorem dX6_guardsWhoSee_9 : decode cX6_guardsWhoSee 9 = .ok (.aload_n 0, 1) := by decide +kernel
theorem dX6_guardsWhoSee_10 : decode cX6_guardsWhoSee 10 = .ok (.getfield 20, 3) := by decide +kernel
theorem dX6_guardsWhoSee_13 : decode cX6_guardsWhoSee 13 = .ok (.iload_n 3, 1) := by decide +kernel
theorem dX6_guardsWhoSee_14 : decode cX6_guardsWhoSee 14 = .ok (.iaload, 1) := by decide +kernel
theorem dX6_guardsWhoSee_15 : decode cX6_guardsWhoSee 15 = .ok (.istore 4, 2) := by decide +kernel
theorem dX6_guardsWhoSee_17 : decode cX6_guardsWhoSee 17 = .ok (.iload 4, 2) := by decide +kernel
theorem dX6_guardsWhoSee_19 : decode cX6_guardsWhoSee 19 = .ok (.ifCond .lt 29, 3) := by decide +kernel
theorem dX6_guardsWhoSee_22 : decode cX6_guardsWhoSee 22 = .ok (.iload 4, 2) := by decide +kernel
theorem dX6_guardsWhoSee_24 : decode cX6_guardsWhoSee 24 = .ok (.iload_n 1, 1) := by decide +kernel
theorem dX6_guardsWhoSee_25 : decode cX6_guardsWhoSee 25 = .ok (.invokestatic 64, 3) := by decide +kernel
theorem dX6_guardsWhoSee_28 : decode cX6_guardsWhoSee 28 = .ok (.aload_n 0, 1) := by decide +kernel
theorem dX6_guardsWhoSee_29 : decode cX6_guardsWhoSee 29 = .ok (.getfield 41, 3) := by decide +kernel
theorem dX6_guardsWhoSee_32 : decode cX6_guardsWhoSee 32 = .ok (.aload_n 0, 1) := by decide +kernel
theorem dX6_guardsWhoSee_33 : decode cX6_guardsWhoSee 33 = .ok (.getfield 11, 3) := by decide +kernel
theorem dX6_guardsWhoSee_36 : decode cX6_guardsWhoSee 36 = .ok (.iload_n 1, 1) := by decide +kernel
theorem dX6_guardsWhoSee_37 : decode cX6_guardsWhoSee 37 = .ok (.iaload, 1) := by decide +kernel
theorem dX6_guardsWhoSee_38 : decode cX6_guardsWhoSee 38 = .ok (.isub, 1) := by decide +kernel
theorem dX6_guardsWhoSee_39 : decode cX6_guardsWhoSee 39 = .ok (.if_icmp .gt 9, 3) := by decide +kernel
theorem dX6_guardsWhoSee_42 : decode cX6_guardsWhoSee 42 = .ok (.iload_n 2, 1) := by decide +kernel
theorem dX6_guardsWhoSee_43 : decode cX6_guardsWhoSee 43 = .ok (.iconst 1, 1) := by decide +kernel
theorem dX6_guardsWhoSee_44 : decode cX6_guardsWhoSee 44 = .ok (.iload_n 3, 1) := by decide +kernel
theorem dX6_guardsWhoSee_45 : decode cX6_guardsWhoSee 45 = .ok (.ishl, 1) := by decide +kernel
theorem dX6_guardsWhoSee_46 : decode cX6_guardsWhoSee 46 = .ok (.ior, 1) := by decide +kernel
theorem dX6_guardsWhoSee_47 : decode cX6_guardsWhoSee 47 = .ok (.istore_n 2, 1) := by decide +kernel
theorem dX6_guardsWhoSee_48 : decode cX6_guardsWhoSee 48 = .ok (.iinc 3 1, 3) := by decide +kernel
theorem dX6_guardsWhoSee_51 : decode cX6_guardsWhoSee 51 = .ok (.goto (-47), 3) := by decide +kernel
theorem dX6_guardsWhoSee_54 : decode cX6_guardsWhoSee 54 = .ok (.iload_n 2, 1) := by decide +kernel
theorem dX6_guardsWhoSee_55 : decode cX6_guardsWhoSee 55 = .ok (.ireturn, 1) := by decide +kernel
set_option maxRecDepth 20000 in
theorem ggX6_bestPost_X6_seenFrom : GoodIn wsX6_bestPost wsX6_seenFrom := goodIn_r _ [6, 7, 8, 9, 10, 11, 12, 13, 14, 15, 16, 17, 18, 19, 20, 21, 29, 30, 31, 32, 33, 34, 35, 36, 37, 38, 39, 40, 41, 42] (by decide +kernel) (by decide +kernel)
set_option maxRecDepth 20000 in
theorem gX6_bestPost_X6_seenFrom : GoodIn wsX6_bestPost (wsV RX6 68 RX6 yX6_seenFrom wsX6_seenFrom) := goodIn_app (goodIn_of _ (by decide +kernel)) ggX6_bestPost_X6_seenFrom
set_option maxRecDepth 20000 in
theorem ggX6_bestPost_J13_bitCount_95d88 : GoodIn wsX6_bestPost wsJ13_bitCount_95d88 := goodIn_r _ [25, 26, 27, 28] (by decide +kernel) (by decide +kernel)
set_option maxRecDepth 20000 in
theorem gX6_bestPost_J13_bitCount_95d88 : GoodIn wsX6_bestPost (va_wsS RX6 72 yJ13_bitCount_95d88 wsJ13_bitCount_95d88) := goodIn_app (goodIn_of _ (by decide +kernel)) ggX6_bestPost_J13_bitCount_95d88
theorem dX6_bestPost_0 : decode cX6_bestPost 0 = .ok (.iconst 0, 1) := by decide +kernel
theorem dX6_bestPost_1 : decode cX6_bestPost 1 = .ok (.istore_n 1, 1) := by decide +kernel
theorem dX6_bestPost_2 : decode cX6_bestPost 2 = .ok (.iconst (-1), 1) := by decide +kernel
theorem dX6_bestPost_3 : decode cX6_bestPost 3 = .ok (.istore_n 2, 1) := by decide +kernel
theorem dX6_bestPost_4 : decode cX6_bestPost 4 = .ok (.iconst 0, 1) := by decide +kernel
theorem dX6_bestPost_5 : decode cX6_bestPost 5 = .ok (.istore_n 3, 1) := by decide +kernel
theorem dX6_bestPost_6 : decode cX6_bestPost 6 = .ok (.iload_n 3, 1) := by decide +kernel
theorem dX6_bestPost_7 : decode cX6_bestPost 7 = .ok (.bipush 48, 2) := by decide +kernel
theorem dX6_bestPost_9 : decode cX6_bestPost 9 = .ok (.if_icmp .ge 34, 3) := by decide +kernel
theorem dX6_bestPost_12 : decode cX6_bestPost 12 = .ok (.aload_n 0, 1) := by decide +kernel
theorem dX6_bestPost_13 : decode cX6_bestPost 13 = .ok (.iload_n 3, 1) := by decide +kernel
theorem dX6_bestPost_14 : decode cX6_bestPost 14 = .ok (.aload_n 0, 1) := by decide +kernel
theorem dX6_bestPost_15 : decode cX6_bestPost 15 = .ok (.getfield 41, 3) := by decide +kernel
theorem dX6_bestPost_18 : decode cX6_bestPost 18 = .ok (.invokevirtual 68, 3) := by decide +kernel
theorem dX6_bestPost_21 : decode cX6_bestPost 21 = .ok (.invokestatic 72, 3) := by decide +kernel
theorem dX6_bestPost_24 : decode cX6_bestPost 24 = .ok (.istore 4, 2) := by decide +kernel
theorem dX6_bestPost_26 : decode cX6_bestPost 26 = .ok (.iload 4, 2) := by decide +kernel
theorem dX6_bestPost_28 : decode cX6_bestPost 28 = .ok (.iload_n 2, 1) := by decide +kernel
theorem dX6_bestPost_29 : decode cX6_bestPost 29 = .ok (.if_icmp .le 8, 3) := by decide +kernel
theorem dX6_bestPost_32 : decode cX6_bestPost 32 = .ok (.iload_n 3, 1) := by decide +kernel
theorem dX6_bestPost_33 : decode cX6_bestPost 33 = .ok (.istore_n 1, 1) := by decide +kernel
theorem dX6_bestPost_34 : decode cX6_bestPost 34 = .ok (.iload 4, 2) := by decide +kernel
theorem dX6_bestPost_36 : decode cX6_bestPost 36 = .ok (.istore_n 2, 1) := by decide +kernel
theorem dX6_bestPost_37 : decode cX6_bestPost 37 = .ok (.iinc 3 1, 3) := by decide +kernel
theorem dX6_bestPost_40 : decode cX6_bestPost 40 = .ok (.goto (-34), 3) := by decide +kernel
theorem dX6_bestPost_43 : decode cX6_bestPost 43 = .ok (.iload_n 1, 1) := by decide +kernel
theorem dX6_bestPost_44 : decode cX6_bestPost 44 = .ok (.ireturn, 1) := by decide +kernel
set_option maxRecDepth 20000 in
theorem ggX6_steamToHide_X0_apart : GoodIn wsX6_steamToHide wsX0_apart := goodIn_r _ [11, 12, 13, 6, 14, 15, 16, 10, 17, 18, 19, 20] (by decide +kernel) (by decide +kernel)
set_option maxRecDepth 20000 in
theorem gX6_steamToHide_X0_apart : GoodIn wsX6_steamToHide (va_wsS RX6 64 yX0_apart wsX0_apart) := goodIn_app (goodIn_of _ (by decide +kernel)) ggX6_steamToHide_X0_apart
theorem dX6_steamToHide_0 : decode cX6_steamToHide 0 = .ok (.aload_n 0, 1) := by decide +kernel
theorem dX6_steamToHide_1 : decode cX6_steamToHide 1 = .ok (.getfield 11, 3) := by decide +kernel
theorem dX6_steamToHide_4 : decode cX6_steamToHide 4 = .ok (.iload_n 1, 1) := by decide +kernel
theorem dX6_steamToHide_5 : decode cX6_steamToHide 5 = .ok (.iaload, 1) := by decide +kernel
theorem dX6_steamToHide_6 : decode cX6_steamToHide 6 = .ok (.istore_n 2, 1) := by decide +kernel
theorem dX6_steamToHide_7 : decode cX6_steamToHide 7 = .ok (.iconst 0, 1) := by decide +kernel
theorem dX6_steamToHide_8 : decode cX6_steamToHide 8 = .ok (.istore_n 3, 1) := by decide +kernel
theorem dX6_steamToHide_9 : decode cX6_steamToHide 9 = .ok (.iload_n 3, 1) := by decide +kernel
theorem dX6_steamToHide_10 : decode cX6_steamToHide 10 = .ok (.iconst 4, 1) := by decide +kernel
theorem dX6_steamToHide_11 : decode cX6_steamToHide 11 = .ok (.if_icmp .ge 40, 3) := by decide +kernel
theorem dX6_steamToHide_14 : decode cX6_steamToHide 14 = .ok (.aload_n 0, 1) := by decide +kernel
theorem dX6_steamToHide_15 : decode cX6_steamToHide 15 = .ok (.getfield 20, 3) := by decide +kernel
theorem dX6_steamToHide_18 : decode cX6_steamToHide 18 = .ok (.iload_n 3, 1) := by decide +kernel
theorem dX6_steamToHide_19 : decode cX6_steamToHide 19 = .ok (.iaload, 1) := by decide +kernel
theorem dX6_steamToHide_20 : decode cX6_steamToHide 20 = .ok (.istore 4, 2) := by decide +kernel
theorem dX6_steamToHide_22 : decode cX6_steamToHide 22 = .ok (.iload 4, 2) := by decide +kernel
theorem dX6_steamToHide_24 : decode cX6_steamToHide 24 = .ok (.ifCond .lt 21, 3) := by decide +kernel
theorem dX6_steamToHide_27 : decode cX6_steamToHide 27 = .ok (.iload_n 2, 1) := by decide +kernel
theorem dX6_steamToHide_28 : decode cX6_steamToHide 28 = .ok (.aload_n 0, 1) := by decide +kernel
theorem dX6_steamToHide_29 : decode cX6_steamToHide 29 = .ok (.getfield 41, 3) := by decide +kernel
theorem dX6_steamToHide_32 : decode cX6_steamToHide 32 = .ok (.iload 4, 2) := by decide +kernel
theorem dX6_steamToHide_34 : decode cX6_steamToHide 34 = .ok (.iload_n 1, 1) := by decide +kernel
theorem dX6_steamToHide_35 : decode cX6_steamToHide 35 = .ok (.invokestatic 64, 3) := by decide +kernel
theorem dX6_steamToHide_38 : decode cX6_steamToHide 38 = .ok (.isub, 1) := by decide +kernel
theorem dX6_steamToHide_39 : decode cX6_steamToHide 39 = .ok (.iconst 1, 1) := by decide +kernel
theorem dX6_steamToHide_40 : decode cX6_steamToHide 40 = .ok (.iadd, 1) := by decide +kernel
theorem dX6_steamToHide_41 : decode cX6_steamToHide 41 = .ok (.invokestatic 78, 3) := by decide +kernel
theorem dX6_steamToHide_44 : decode cX6_steamToHide 44 = .ok (.istore_n 2, 1) := by decide +kernel
theorem dX6_steamToHide_45 : decode cX6_steamToHide 45 = .ok (.iinc 3 1, 3) := by decide +kernel
theorem dX6_steamToHide_48 : decode cX6_steamToHide 48 = .ok (.goto (-39), 3) := by decide +kernel
theorem dX6_steamToHide_51 : decode cX6_steamToHide 51 = .ok (.iload_n 2, 1) := by decide +kernel
theorem dX6_steamToHide_52 : decode cX6_steamToHide 52 = .ok (.bipush 9, 2) := by decide +kernel
theorem dX6_steamToHide_54 : decode cX6_steamToHide 54 = .ok (.if_icmp .le 7, 3) := by decide +kernel
theorem dX6_steamToHide_57 : decode cX6_steamToHide 57 = .ok (.iconst (-1), 1) := by decide +kernel
theorem dX6_steamToHide_58 : decode cX6_steamToHide 58 = .ok (.goto 11, 3) := by decide +kernel
theorem dX6_steamToHide_61 : decode cX6_steamToHide 61 = .ok (.iload_n 2, 1) := by decide +kernel
theorem dX6_steamToHide_62 : decode cX6_steamToHide 62 = .ok (.aload_n 0, 1) := by decide +kernel
theorem dX6_steamToHide_63 : decode cX6_steamToHide 63 = .ok (.getfield 11, 3) := by decide +kernel
theorem dX6_steamToHide_66 : decode cX6_steamToHide 66 = .ok (.iload_n 1, 1) := by decide +kernel
theorem dX6_steamToHide_67 : decode cX6_steamToHide 67 = .ok (.iaload, 1) := by decide +kernel
theorem dX6_steamToHide_68 : decode cX6_steamToHide 68 = .ok (.isub, 1) := by decide +kernel
theorem dX6_steamToHide_69 : decode cX6_steamToHide 69 = .ok (.ireturn, 1) := by decide +kernel
theorem dX6_whoIsAt_0 : decode cX6_whoIsAt 0 = .ok (.iconst 0, 1) := by decide +kernel
theorem dX6_whoIsAt_1 : decode cX6_whoIsAt 1 = .ok (.istore_n 2, 1) := by decide +kernel
theorem dX6_whoIsAt_2 : decode cX6_whoIsAt 2 = .ok (.iconst 0, 1) := by decide +kernel
theorem dX6_whoIsAt_3 : decode cX6_whoIsAt 3 = .ok (.istore_n 3, 1) := by decide +kernel
theorem dX6_whoIsAt_4 : decode cX6_whoIsAt 4 = .ok (.iload_n 3, 1) := by decide +kernel
theorem dX6_whoIsAt_5 : decode cX6_whoIsAt 5 = .ok (.aload_n 0, 1) := by decide +kernel
theorem dX6_whoIsAt_6 : decode cX6_whoIsAt 6 = .ok (.getfield 54, 3) := by decide +kernel
theorem dX6_whoIsAt_9 : decode cX6_whoIsAt 9 = .ok (.if_icmp .ge 25, 3) := by decide +kernel
theorem dX6_whoIsAt_12 : decode cX6_whoIsAt 12 = .ok (.aload_n 0, 1) := by decide +kernel
theorem dX6_whoIsAt_13 : decode cX6_whoIsAt 13 = .ok (.getfield 26, 3) := by decide +kernel
theorem dX6_whoIsAt_16 : decode cX6_whoIsAt 16 = .ok (.iload_n 3, 1) := by decide +kernel
theorem dX6_whoIsAt_17 : decode cX6_whoIsAt 17 = .ok (.iaload, 1) := by decide +kernel
theorem dX6_whoIsAt_18 : decode cX6_whoIsAt 18 = .ok (.iload_n 1, 1) := by decide +kernel
theorem dX6_whoIsAt_19 : decode cX6_whoIsAt 19 = .ok (.if_icmp .ne 9, 3) := by decide +kernel
theorem dX6_whoIsAt_22 : decode cX6_whoIsAt 22 = .ok (.iload_n 2, 1) := by decide +kernel
theorem dX6_whoIsAt_23 : decode cX6_whoIsAt 23 = .ok (.iconst 1, 1) := by decide +kernel
theorem dX6_whoIsAt_24 : decode cX6_whoIsAt 24 = .ok (.iload_n 3, 1) := by decide +kernel
theorem dX6_whoIsAt_25 : decode cX6_whoIsAt 25 = .ok (.ishl, 1) := by decide +kernel
theorem dX6_whoIsAt_26 : decode cX6_whoIsAt 26 = .ok (.ior, 1) := by decide +kernel
theorem dX6_whoIsAt_27 : decode cX6_whoIsAt 27 = .ok (.istore_n 2, 1) := by decide +kernel
theorem dX6_whoIsAt_28 : decode cX6_whoIsAt 28 = .ok (.iinc 3 1, 3) := by decide +kernel
theorem dX6_whoIsAt_31 : decode cX6_whoIsAt 31 = .ok (.goto (-27), 3) := by decide +kernel
theorem dX6_whoIsAt_34 : decode cX6_whoIsAt 34 = .ok (.iload_n 2, 1) := by decide +kernel
theorem dX6_whoIsAt_35 : decode cX6_whoIsAt 35 = .ok (.ireturn, 1) := by decide +kernel
set_option maxRecDepth 20000 in
theorem ggX6_howManyAt_X6_whoIsAt : GoodIn wsX6_howManyAt wsX6_whoIsAt := goodIn_r _ [5, 6, 7, 15, 16, 17, 18, 19, 20, 21, 22, 23, 24, 25, 26, 27, 28] (by decide +kernel) (by decide +kernel)
set_option maxRecDepth 20000 in
theorem gX6_howManyAt_X6_whoIsAt : GoodIn wsX6_howManyAt (wsV RX6 83 RX6 yX6_whoIsAt wsX6_whoIsAt) := goodIn_app (goodIn_of _ (by decide +kernel)) ggX6_howManyAt_X6_whoIsAt
set_option maxRecDepth 20000 in
theorem ggX6_howManyAt_J6_bitCount_0f7a4 : GoodIn wsX6_howManyAt wsJ6_bitCount_0f7a4 := goodIn_r _ [11, 12, 13, 14] (by decide +kernel) (by decide +kernel)
set_option maxRecDepth 20000 in
theorem gX6_howManyAt_J6_bitCount_0f7a4 : GoodIn wsX6_howManyAt (va_wsS RX6 87 yJ6_bitCount_0f7a4 wsJ6_bitCount_0f7a4) := goodIn_app (goodIn_of _ (by decide +kernel)) ggX6_howManyAt_J6_bitCount_0f7a4
theorem dX6_howManyAt_0 : decode cX6_howManyAt 0 = .ok (.aload_n 0, 1) := by decide +kernel
theorem dX6_howManyAt_1 : decode cX6_howManyAt 1 = .ok (.iload_n 1, 1) := by decide +kernel
theorem dX6_howManyAt_2 : decode cX6_howManyAt 2 = .ok (.invokevirtual 83, 3) := by decide +kernel
theorem dX6_howManyAt_5 : decode cX6_howManyAt 5 = .ok (.invokestatic 87, 3) := by decide +kernel
theorem dX6_howManyAt_8 : decode cX6_howManyAt 8 = .ok (.ireturn, 1) := by decide +kernel
set_option maxRecDepth 20000 in
theorem ggX6_howManyOut_X6_howManyAt : GoodIn wsX6_howManyOut wsX6_howManyAt := goodIn_r _ [5, 6, 7, 8, 4, 9, 10, 11, 12, 13, 14, 15, 16, 17, 18, 19, 20, 21, 22, 23, 24, 25, 26, 27, 28, 29, 30, 31, 32] (by decide +kernel) (by decide +kernel)
set_option maxRecDepth 20000 in
theorem gX6_howManyOut_X6_howManyAt : GoodIn wsX6_howManyOut (wsV RX6 91 RX6 yX6_howManyAt wsX6_howManyAt) := goodIn_app (goodIn_of _ (by decide +kernel)) ggX6_howManyOut_X6_howManyAt
theorem dX6_howManyOut_0 : decode cX6_howManyOut 0 = .ok (.aload_n 0, 1) := by decide +kernel
theorem dX6_howManyOut_1 : decode cX6_howManyOut 1 = .ok (.bipush 100, 2) := by decide +kernel
theorem dX6_howManyOut_3 : decode cX6_howManyOut 3 = .ok (.invokevirtual 91, 3) := by decide +kernel
theorem dX6_howManyOut_6 : decode cX6_howManyOut 6 = .ok (.aload_n 0, 1) := by decide +kernel
theorem dX6_howManyOut_7 : decode cX6_howManyOut 7 = .ok (.bipush 101, 2) := by decide +kernel
theorem dX6_howManyOut_9 : decode cX6_howManyOut 9 = .ok (.invokevirtual 91, 3) := by decide +kernel
theorem dX6_howManyOut_12 : decode cX6_howManyOut 12 = .ok (.iadd, 1) := by decide +kernel
theorem dX6_howManyOut_13 : decode cX6_howManyOut 13 = .ok (.ireturn, 1) := by decide +kernel
theorem dX6_steamOfAll_0 : decode cX6_steamOfAll 0 = .ok (.iconst 0, 1) := by decide +kernel
theorem dX6_steamOfAll_1 : decode cX6_steamOfAll 1 = .ok (.istore_n 1, 1) := by decide +kernel
theorem dX6_steamOfAll_2 : decode cX6_steamOfAll 2 = .ok (.iconst 0, 1) := by decide +kernel
theorem dX6_steamOfAll_3 : decode cX6_steamOfAll 3 = .ok (.istore_n 2, 1) := by decide +kernel
theorem dX6_steamOfAll_4 : decode cX6_steamOfAll 4 = .ok (.iload_n 2, 1) := by decide +kernel
theorem dX6_steamOfAll_5 : decode cX6_steamOfAll 5 = .ok (.bipush 48, 2) := by decide +kernel
theorem dX6_steamOfAll_7 : decode cX6_steamOfAll 7 = .ok (.if_icmp .ge 18, 3) := by decide +kernel
theorem dX6_steamOfAll_10 : decode cX6_steamOfAll 10 = .ok (.iload_n 1, 1) := by decide +kernel
theorem dX6_steamOfAll_11 : decode cX6_steamOfAll 11 = .ok (.aload_n 0, 1) := by decide +kernel
theorem dX6_steamOfAll_12 : decode cX6_steamOfAll 12 = .ok (.getfield 11, 3) := by decide +kernel
theorem dX6_steamOfAll_15 : decode cX6_steamOfAll 15 = .ok (.iload_n 2, 1) := by decide +kernel
theorem dX6_steamOfAll_16 : decode cX6_steamOfAll 16 = .ok (.iaload, 1) := by decide +kernel
theorem dX6_steamOfAll_17 : decode cX6_steamOfAll 17 = .ok (.iadd, 1) := by decide +kernel
theorem dX6_steamOfAll_18 : decode cX6_steamOfAll 18 = .ok (.istore_n 1, 1) := by decide +kernel
theorem dX6_steamOfAll_19 : decode cX6_steamOfAll 19 = .ok (.iinc 2 1, 3) := by decide +kernel
theorem dX6_steamOfAll_22 : decode cX6_steamOfAll 22 = .ok (.goto (-18), 3) := by decide +kernel
theorem dX6_steamOfAll_25 : decode cX6_steamOfAll 25 = .ok (.iload_n 1, 1) := by decide +kernel
theorem dX6_steamOfAll_26 : decode cX6_steamOfAll 26 = .ok (.ireturn, 1) := by decide +kernel
theorem dX6_heldSpots_0 : decode cX6_heldSpots 0 = .ok (.iconst 0, 1) := by decide +kernel
theorem dX6_heldSpots_1 : decode cX6_heldSpots 1 = .ok (.istore_n 1, 1) := by decide +kernel
theorem dX6_heldSpots_2 : decode cX6_heldSpots 2 = .ok (.iconst 0, 1) := by decide +kernel
theorem dX6_heldSpots_3 : decode cX6_heldSpots 3 = .ok (.istore_n 2, 1) := by decide +kernel
theorem dX6_heldSpots_4 : decode cX6_heldSpots 4 = .ok (.iload_n 2, 1) := by decide +kernel
theorem dX6_heldSpots_5 : decode cX6_heldSpots 5 = .ok (.bipush 10, 2) := by decide +kernel
theorem dX6_heldSpots_7 : decode cX6_heldSpots 7 = .ok (.if_icmp .ge 21, 3) := by decide +kernel
theorem dX6_heldSpots_10 : decode cX6_heldSpots 10 = .ok (.aload_n 0, 1) := by decide +kernel
theorem dX6_heldSpots_11 : decode cX6_heldSpots 11 = .ok (.getfield 38, 3) := by decide +kernel
theorem dX6_heldSpots_14 : decode cX6_heldSpots 14 = .ok (.iload_n 2, 1) := by decide +kernel
theorem dX6_heldSpots_15 : decode cX6_heldSpots 15 = .ok (.iaload, 1) := by decide +kernel
theorem dX6_heldSpots_16 : decode cX6_heldSpots 16 = .ok (.ifCond .lt 6, 3) := by decide +kernel
theorem dX6_heldSpots_19 : decode cX6_heldSpots 19 = .ok (.iinc 1 1, 3) := by decide +kernel
theorem dX6_heldSpots_22 : decode cX6_heldSpots 22 = .ok (.iinc 2 1, 3) := by decide +kernel
theorem dX6_heldSpots_25 : decode cX6_heldSpots 25 = .ok (.goto (-21), 3) := by decide +kernel
theorem dX6_heldSpots_28 : decode cX6_heldSpots 28 = .ok (.iload_n 1, 1) := by decide +kernel
theorem dX6_heldSpots_29 : decode cX6_heldSpots 29 = .ok (.ireturn, 1) := by decide +kernel
set_option maxRecDepth 20000 in
theorem ggX6_swapsToOrder_X6_ringOf : GoodIn wsX6_swapsToOrder wsX6_ringOf := goodIn_r _ [7, 1, 2, 8, 9, 10, 11, 12, 13, 14, 15, 16, 17, 18, 19, 20, 21] (by decide +kernel) (by decide +kernel)
set_option maxRecDepth 20000 in
theorem gX6_swapsToOrder_X6_ringOf : GoodIn wsX6_swapsToOrder (wsV RX6 94 RX6 yX6_ringOf wsX6_ringOf) := goodIn_app (goodIn_of _ (by decide +kernel)) ggX6_swapsToOrder_X6_ringOf
theorem dX6_swapsToOrder_0 : decode cX6_swapsToOrder 0 = .ok (.iconst 0, 1) := by decide +kernel
theorem dX6_swapsToOrder_1 : decode cX6_swapsToOrder 1 = .ok (.istore_n 1, 1) := by decide +kernel
theorem dX6_swapsToOrder_2 : decode cX6_swapsToOrder 2 = .ok (.iconst 0, 1) := by decide +kernel
theorem dX6_swapsToOrder_3 : decode cX6_swapsToOrder 3 = .ok (.istore_n 2, 1) := by decide +kernel
theorem dX6_swapsToOrder_4 : decode cX6_swapsToOrder 4 = .ok (.iload_n 2, 1) := by decide +kernel
theorem dX6_swapsToOrder_5 : decode cX6_swapsToOrder 5 = .ok (.aload_n 0, 1) := by decide +kernel
theorem dX6_swapsToOrder_6 : decode cX6_swapsToOrder 6 = .ok (.getfield 54, 3) := by decide +kernel
theorem dX6_swapsToOrder_9 : decode cX6_swapsToOrder 9 = .ok (.if_icmp .ge 20, 3) := by decide +kernel
theorem dX6_swapsToOrder_12 : decode cX6_swapsToOrder 12 = .ok (.iload_n 1, 1) := by decide +kernel
theorem dX6_swapsToOrder_13 : decode cX6_swapsToOrder 13 = .ok (.iconst 1, 1) := by decide +kernel
theorem dX6_swapsToOrder_14 : decode cX6_swapsToOrder 14 = .ok (.aload_n 0, 1) := by decide +kernel
theorem dX6_swapsToOrder_15 : decode cX6_swapsToOrder 15 = .ok (.getfield 35, 3) := by decide +kernel
theorem dX6_swapsToOrder_18 : decode cX6_swapsToOrder 18 = .ok (.iload_n 2, 1) := by decide +kernel
theorem dX6_swapsToOrder_19 : decode cX6_swapsToOrder 19 = .ok (.iaload, 1) := by decide +kernel
theorem dX6_swapsToOrder_20 : decode cX6_swapsToOrder 20 = .ok (.ishl, 1) := by decide +kernel
theorem dX6_swapsToOrder_21 : decode cX6_swapsToOrder 21 = .ok (.ior, 1) := by decide +kernel
theorem dX6_swapsToOrder_22 : decode cX6_swapsToOrder 22 = .ok (.istore_n 1, 1) := by decide +kernel
theorem dX6_swapsToOrder_23 : decode cX6_swapsToOrder 23 = .ok (.iinc 2 1, 3) := by decide +kernel
theorem dX6_swapsToOrder_26 : decode cX6_swapsToOrder 26 = .ok (.goto (-22), 3) := by decide +kernel
theorem dX6_swapsToOrder_29 : decode cX6_swapsToOrder 29 = .ok (.iload_n 1, 1) := by decide +kernel
theorem dX6_swapsToOrder_30 : decode cX6_swapsToOrder 30 = .ok (.iconst 1, 1) := by decide +kernel
theorem dX6_swapsToOrder_31 : decode cX6_swapsToOrder 31 = .ok (.aload_n 0, 1) := by decide +kernel
theorem dX6_swapsToOrder_32 : decode cX6_swapsToOrder 32 = .ok (.getfield 54, 3) := by decide +kernel
theorem dX6_swapsToOrder_35 : decode cX6_swapsToOrder 35 = .ok (.ishl, 1) := by decide +kernel
theorem dX6_swapsToOrder_36 : decode cX6_swapsToOrder 36 = .ok (.iconst 1, 1) := by decide +kernel
theorem dX6_swapsToOrder_37 : decode cX6_swapsToOrder 37 = .ok (.isub, 1) := by decide +kernel
theorem dX6_swapsToOrder_38 : decode cX6_swapsToOrder 38 = .ok (.if_icmp .eq 5, 3) := by decide +kernel
theorem dX6_swapsToOrder_41 : decode cX6_swapsToOrder 41 = .ok (.iconst (-1), 1) := by decide +kernel
theorem dX6_swapsToOrder_42 : decode cX6_swapsToOrder 42 = .ok (.ireturn, 1) := by decide +kernel
theorem dX6_swapsToOrder_43 : decode cX6_swapsToOrder 43 = .ok (.iconst 0, 1) := by decide +kernel
theorem dX6_swapsToOrder_44 : decode cX6_swapsToOrder 44 = .ok (.istore_n 2, 1) := by decide +kernel
theorem dX6_swapsToOrder_45 : decode cX6_swapsToOrder 45 = .ok (.iconst 0, 1) := by decide +kernel
theorem dX6_swapsToOrder_46 : decode cX6_swapsToOrder 46 = .ok (.istore_n 3, 1) := by decide +kernel
theorem dX6_swapsToOrder_47 : decode cX6_swapsToOrder 47 = .ok (.iconst 0, 1) := by decide +kernel
theorem dX6_swapsToOrder_48 : decode cX6_swapsToOrder 48 = .ok (.istore 4, 2) := by decide +kernel
theorem dX6_swapsToOrder_50 : decode cX6_swapsToOrder 50 = .ok (.iload 4, 2) := by decide +kernel
theorem dX6_swapsToOrder_52 : decode cX6_swapsToOrder 52 = .ok (.aload_n 0, 1) := by decide +kernel
theorem dX6_swapsToOrder_53 : decode cX6_swapsToOrder 53 = .ok (.getfield 54, 3) := by decide +kernel
theorem dX6_swapsToOrder_56 : decode cX6_swapsToOrder 56 = .ok (.if_icmp .ge 30, 3) := by decide +kernel
theorem dX6_swapsToOrder_59 : decode cX6_swapsToOrder 59 = .ok (.iload_n 2, 1) := by decide +kernel
theorem dX6_swapsToOrder_60 : decode cX6_swapsToOrder 60 = .ok (.iload 4, 2) := by decide +kernel
theorem dX6_swapsToOrder_62 : decode cX6_swapsToOrder 62 = .ok (.ishr, 1) := by decide +kernel
theorem dX6_swapsToOrder_63 : decode cX6_swapsToOrder 63 = .ok (.iconst 1, 1) := by decide +kernel
theorem dX6_swapsToOrder_64 : decode cX6_swapsToOrder 64 = .ok (.iand, 1) := by decide +kernel
theorem dX6_swapsToOrder_65 : decode cX6_swapsToOrder 65 = .ok (.ifCond .ne 15, 3) := by decide +kernel
theorem dX6_swapsToOrder_68 : decode cX6_swapsToOrder 68 = .ok (.iinc 3 1, 3) := by decide +kernel
theorem dX6_swapsToOrder_71 : decode cX6_swapsToOrder 71 = .ok (.iload_n 2, 1) := by decide +kernel
theorem dX6_swapsToOrder_72 : decode cX6_swapsToOrder 72 = .ok (.aload_n 0, 1) := by decide +kernel
theorem dX6_swapsToOrder_73 : decode cX6_swapsToOrder 73 = .ok (.iload 4, 2) := by decide +kernel
theorem dX6_swapsToOrder_75 : decode cX6_swapsToOrder 75 = .ok (.invokevirtual 94, 3) := by decide +kernel
theorem dX6_swapsToOrder_78 : decode cX6_swapsToOrder 78 = .ok (.ior, 1) := by decide +kernel
theorem dX6_swapsToOrder_79 : decode cX6_swapsToOrder 79 = .ok (.istore_n 2, 1) := by decide +kernel
theorem dX6_swapsToOrder_80 : decode cX6_swapsToOrder 80 = .ok (.iinc 4 1, 3) := by decide +kernel
theorem dX6_swapsToOrder_83 : decode cX6_swapsToOrder 83 = .ok (.goto (-33), 3) := by decide +kernel
theorem dX6_swapsToOrder_86 : decode cX6_swapsToOrder 86 = .ok (.aload_n 0, 1) := by decide +kernel
theorem dX6_swapsToOrder_87 : decode cX6_swapsToOrder 87 = .ok (.getfield 54, 3) := by decide +kernel
theorem dX6_swapsToOrder_90 : decode cX6_swapsToOrder 90 = .ok (.iload_n 3, 1) := by decide +kernel
theorem dX6_swapsToOrder_91 : decode cX6_swapsToOrder 91 = .ok (.isub, 1) := by decide +kernel
theorem dX6_swapsToOrder_92 : decode cX6_swapsToOrder 92 = .ok (.ireturn, 1) := by decide +kernel
theorem dX6_ringOf_0 : decode cX6_ringOf 0 = .ok (.iconst 0, 1) := by decide +kernel
theorem dX6_ringOf_1 : decode cX6_ringOf 1 = .ok (.istore_n 2, 1) := by decide +kernel
theorem dX6_ringOf_2 : decode cX6_ringOf 2 = .ok (.iload_n 1, 1) := by decide +kernel
theorem dX6_ringOf_3 : decode cX6_ringOf 3 = .ok (.istore_n 3, 1) := by decide +kernel
theorem dX6_ringOf_4 : decode cX6_ringOf 4 = .ok (.iconst 0, 1) := by decide +kernel
theorem dX6_ringOf_5 : decode cX6_ringOf 5 = .ok (.istore 4, 2) := by decide +kernel
theorem dX6_ringOf_7 : decode cX6_ringOf 7 = .ok (.iload 4, 2) := by decide +kernel
theorem dX6_ringOf_9 : decode cX6_ringOf 9 = .ok (.aload_n 0, 1) := by decide +kernel
theorem dX6_ringOf_10 : decode cX6_ringOf 10 = .ok (.getfield 54, 3) := by decide +kernel
theorem dX6_ringOf_13 : decode cX6_ringOf 13 = .ok (.if_icmp .ge 22, 3) := by decide +kernel
theorem dX6_ringOf_16 : decode cX6_ringOf 16 = .ok (.iload_n 2, 1) := by decide +kernel
theorem dX6_ringOf_17 : decode cX6_ringOf 17 = .ok (.iconst 1, 1) := by decide +kernel
theorem dX6_ringOf_18 : decode cX6_ringOf 18 = .ok (.iload_n 3, 1) := by decide +kernel
theorem dX6_ringOf_19 : decode cX6_ringOf 19 = .ok (.ishl, 1) := by decide +kernel
theorem dX6_ringOf_20 : decode cX6_ringOf 20 = .ok (.ior, 1) := by decide +kernel
theorem dX6_ringOf_21 : decode cX6_ringOf 21 = .ok (.istore_n 2, 1) := by decide +kernel
theorem dX6_ringOf_22 : decode cX6_ringOf 22 = .ok (.aload_n 0, 1) := by decide +kernel
theorem dX6_ringOf_23 : decode cX6_ringOf 23 = .ok (.getfield 35, 3) := by decide +kernel
theorem dX6_ringOf_26 : decode cX6_ringOf 26 = .ok (.iload_n 3, 1) := by decide +kernel
theorem dX6_ringOf_27 : decode cX6_ringOf 27 = .ok (.iaload, 1) := by decide +kernel
theorem dX6_ringOf_28 : decode cX6_ringOf 28 = .ok (.istore_n 3, 1) := by decide +kernel
theorem dX6_ringOf_29 : decode cX6_ringOf 29 = .ok (.iinc 4 1, 3) := by decide +kernel
theorem dX6_ringOf_32 : decode cX6_ringOf 32 = .ok (.goto (-25), 3) := by decide +kernel
theorem dX6_ringOf_35 : decode cX6_ringOf 35 = .ok (.iload_n 2, 1) := by decide +kernel
theorem dX6_ringOf_36 : decode cX6_ringOf 36 = .ok (.ireturn, 1) := by decide +kernel
