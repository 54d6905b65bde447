set_option maxRecDepth 20000 in
theorem ggX7_tax_X7_isBather : GoodIn wsX7_tax wsX7_isBather := goodIn_r _ [8, 1, 9, 10, 11, 7, 12, 110, 111, 112, 113, 114, 115, 116, 117, 118, 119, 120, 121, 122, 123, 124, 125, 126, 127, 128, 129, 130, 131, 132, 133, 134, 135, 136] (by decide +kernel) (by decide +kernel)
set_option maxRecDepth 20000 in
theorem gX7_tax_X7_isBather : GoodIn wsX7_tax (wsV RX7 129 RX7 yX7_isBather wsX7_isBather) := goodIn_app (goodIn_of _ (by decide +kernel)) ggX7_tax_X7_isBather
set_option maxRecDepth 20000 in
theorem ggX7_tax_X7_isWithin : GoodIn wsX7_tax wsX7_isWithin := goodIn_r _ [12] (by decide +kernel) (by decide +kernel)
set_option maxRecDepth 20000 in
theorem gX7_tax_X7_isWithin : GoodIn wsX7_tax (va_wsS RX7 85 yX7_isWithin wsX7_isWithin) := goodIn_app (goodIn_of _ (by decide +kernel)) ggX7_tax_X7_isWithin
set_option maxRecDepth 20000 in
theorem ggX7_tax_X7_finding : GoodIn wsX7_tax wsX7_finding := goodIn_r _ [16, 17, 18, 110, 111, 112, 113, 114, 115, 116, 117, 118, 119, 120, 121, 122] (by decide +kernel) (by decide +kernel)
set_option maxRecDepth 20000 in
theorem gX7_tax_X7_finding : GoodIn wsX7_tax (wsV RX7 89 RX7 yX7_finding wsX7_finding) := goodIn_app (goodIn_of _ (by decide +kernel)) ggX7_tax_X7_finding
set_option maxRecDepth 20000 in
theorem ggX7_tax_X6_seenCells : GoodIn wsX7_tax wsX6_seenCells := goodIn_r _ [23, 24, 25, 26, 27, 22, 28, 29, 30, 31, 32, 33, 34, 35, 36, 37, 38, 39, 40, 41, 42, 43, 123, 124, 125, 126, 127, 128, 129, 130, 131, 132, 133, 134, 135, 136] (by decide +kernel) (by decide +kernel)
set_option maxRecDepth 20000 in
theorem gX7_tax_X6_seenCells : GoodIn wsX7_tax (wsV RX7 151 RX6 yX6_seenCells wsX6_seenCells) := goodIn_app (goodIn_of _ (by decide +kernel)) ggX7_tax_X6_seenCells
set_option maxRecDepth 20000 in
theorem ggX7_tax_X4_take : GoodIn wsX7_tax wsX4_take := goodIn_r _ [48, 49, 50, 51, 52, 53, 54, 55, 56, 57, 137, 138, 139, 140, 141, 123, 124, 125, 126, 127, 128, 129, 130, 131, 132, 133, 134, 135, 136] (by decide +kernel) (by decide +kernel)
set_option maxRecDepth 20000 in
theorem gX7_tax_X4_take : GoodIn wsX7_tax (wsV RX7 147 RX4 yX4_take wsX4_take) := goodIn_app (goodIn_of _ (by decide +kernel)) ggX7_tax_X4_take
set_option maxRecDepth 20000 in
theorem ggX7_tax_X4_pass : GoodIn wsX7_tax wsX4_pass := goodIn_r _ [61, 51, 53, 55, 57, 62, 63, 36, 64, 65, 66, 67, 47, 68, 69, 70, 32, 71, 72, 42, 43, 73, 74, 75, 76, 77, 78, 79, 80, 81, 82, 83, 84, 85, 86, 87, 88, 89, 90, 91, 92, 93, 94, 95, 96, 38, 39, 40, 41, 97, 98, 99, 100, 49, 101, 102, 103, 104, 105, 137, 138, 139, 140, 141, 123, 124, 125, 126, 127, 128, 129, 130, 131, 132, 133, 134, 135, 136] (by decide +kernel) (by decide +kernel)
set_option maxRecDepth 20000 in
theorem gX7_tax_X4_pass : GoodIn wsX7_tax (wsV RX7 189 RX4 yX4_pass wsX4_pass) := goodIn_app (goodIn_of _ (by decide +kernel)) ggX7_tax_X4_pass
set_option maxRecDepth 20000 in
theorem ggX7_tax_X4_taxedColumn : GoodIn wsX7_tax wsX4_taxedColumn := goodIn_r _ [109, 53, 65, 66, 67, 47, 68, 69, 70, 32, 71, 72, 42, 43, 73, 74, 75, 137, 138, 139, 140, 141] (by decide +kernel) (by decide +kernel)
set_option maxRecDepth 20000 in
theorem gX7_tax_X4_taxedColumn : GoodIn wsX7_tax (wsV RX7 256 RX4 yX4_taxedColumn wsX4_taxedColumn) := goodIn_app (goodIn_of _ (by decide +kernel)) ggX7_tax_X4_taxedColumn
theorem dX7_tax_0 : decode cX7_tax 0 = .ok (.aload_n 0, 1) := by decide +kernel
theorem dX7_tax_1 : decode cX7_tax 1 = .ok (.iload_n 1, 1) := by decide +kernel
theorem dX7_tax_2 : decode cX7_tax 2 = .ok (.invokevirtual 129, 3) := by decide +kernel
theorem dX7_tax_5 : decode cX7_tax 5 = .ok (.ifCond .eq 13, 3) := by decide +kernel
theorem dX7_tax_8 : decode cX7_tax 8 = .ok (.iload_n 2, 1) := by decide +kernel
theorem dX7_tax_9 : decode cX7_tax 9 = .ok (.iconst 0, 1) := by decide +kernel
theorem dX7_tax_10 : decode cX7_tax 10 = .ok (.bipush 100, 2) := by decide +kernel
theorem dX7_tax_12 : decode cX7_tax 12 = .ok (.invokestatic 85, 3) := by decide +kernel
theorem dX7_tax_15 : decode cX7_tax 15 = .ok (.ifCond .ne 9, 3) := by decide +kernel
theorem dX7_tax_18 : decode cX7_tax 18 = .ok (.aload_n 0, 1) := by decide +kernel
theorem dX7_tax_19 : decode cX7_tax 19 = .ok (.iconst 0, 1) := by decide +kernel
theorem dX7_tax_20 : decode cX7_tax 20 = .ok (.invokevirtual 89, 3) := by decide +kernel
theorem dX7_tax_23 : decode cX7_tax 23 = .ok (.ireturn, 1) := by decide +kernel
theorem dX7_tax_24 : decode cX7_tax 24 = .ok (.aload_n 0, 1) := by decide +kernel
theorem dX7_tax_25 : decode cX7_tax 25 = .ok (.getfield 10, 3) := by decide +kernel
theorem dX7_tax_28 : decode cX7_tax 28 = .ok (.aload_n 0, 1) := by decide +kernel
theorem dX7_tax_29 : decode cX7_tax 29 = .ok (.getfield 10, 3) := by decide +kernel
theorem dX7_tax_32 : decode cX7_tax 32 = .ok (.getfield 115, 3) := by decide +kernel
theorem dX7_tax_35 : decode cX7_tax 35 = .ok (.invokevirtual 151, 3) := by decide +kernel
theorem dX7_tax_38 : decode cX7_tax 38 = .ok (.lstore_n 3, 1) := by decide +kernel
theorem dX7_tax_39 : decode cX7_tax 39 = .ok (.aload_n 0, 1) := by decide +kernel
theorem dX7_tax_40 : decode cX7_tax 40 = .ok (.getfield 31, 3) := by decide +kernel
theorem dX7_tax_43 : decode cX7_tax 43 = .ok (.iload_n 1, 1) := by decide +kernel
theorem dX7_tax_44 : decode cX7_tax 44 = .ok (.invokevirtual 147, 3) := by decide +kernel
theorem dX7_tax_47 : decode cX7_tax 47 = .ok (.iconst 0, 1) := by decide +kernel
theorem dX7_tax_48 : decode cX7_tax 48 = .ok (.istore 5, 2) := by decide +kernel
theorem dX7_tax_50 : decode cX7_tax 50 = .ok (.iconst 0, 1) := by decide +kernel
theorem dX7_tax_51 : decode cX7_tax 51 = .ok (.istore 6, 2) := by decide +kernel
theorem dX7_tax_53 : decode cX7_tax 53 = .ok (.iload 6, 2) := by decide +kernel
theorem dX7_tax_55 : decode cX7_tax 55 = .ok (.iload_n 2, 1) := by decide +kernel
theorem dX7_tax_56 : decode cX7_tax 56 = .ok (.if_icmp .ge 29, 3) := by decide +kernel
theorem dX7_tax_59 : decode cX7_tax 59 = .ok (.aload_n 0, 1) := by decide +kernel
theorem dX7_tax_60 : decode cX7_tax 60 = .ok (.getfield 31, 3) := by decide +kernel
theorem dX7_tax_63 : decode cX7_tax 63 = .ok (.lload_n 3, 1) := by decide +kernel
theorem dX7_tax_64 : decode cX7_tax 64 = .ok (.invokevirtual 189, 3) := by decide +kernel
theorem dX7_tax_67 : decode cX7_tax 67 = .ok (.iload 5, 2) := by decide +kernel
theorem dX7_tax_69 : decode cX7_tax 69 = .ok (.aload_n 0, 1) := by decide +kernel
theorem dX7_tax_70 : decode cX7_tax 70 = .ok (.getfield 31, 3) := by decide +kernel
theorem dX7_tax_73 : decode cX7_tax 73 = .ok (.invokevirtual 256, 3) := by decide +kernel
theorem dX7_tax_76 : decode cX7_tax 76 = .ok (.iadd, 1) := by decide +kernel
theorem dX7_tax_77 : decode cX7_tax 77 = .ok (.istore 5, 2) := by decide +kernel
theorem dX7_tax_79 : decode cX7_tax 79 = .ok (.iinc 6 1, 3) := by decide +kernel
theorem dX7_tax_82 : decode cX7_tax 82 = .ok (.goto (-29), 3) := by decide +kernel
theorem dX7_tax_85 : decode cX7_tax 85 = .ok (.iload 5, 2) := by decide +kernel
theorem dX7_tax_87 : decode cX7_tax 87 = .ok (.ireturn, 1) := by decide +kernel
set_option maxRecDepth 20000 in
theorem ggX7_boilers_X7_isWithin : GoodIn wsX7_boilers wsX7_isWithin := goodIn_r _ [6] (by decide +kernel) (by decide +kernel)
set_option maxRecDepth 20000 in
theorem gX7_boilers_X7_isWithin : GoodIn wsX7_boilers (va_wsS RX7 85 yX7_isWithin wsX7_isWithin) := goodIn_app (goodIn_of _ (by decide +kernel)) ggX7_boilers_X7_isWithin
set_option maxRecDepth 20000 in
theorem ggX7_boilers_X7_finding : GoodIn wsX7_boilers wsX7_finding := goodIn_r _ [10, 11, 12, 13, 14, 15, 16, 17, 18, 19, 20, 21, 22, 23, 24, 25] (by decide +kernel) (by decide +kernel)
set_option maxRecDepth 20000 in
theorem gX7_boilers_X7_finding : GoodIn wsX7_boilers (wsV RX7 89 RX7 yX7_finding wsX7_finding) := goodIn_app (goodIn_of _ (by decide +kernel)) ggX7_boilers_X7_finding
theorem dX7_boilers_0 : decode cX7_boilers 0 = .ok (.iload_n 1, 1) := by decide +kernel
theorem dX7_boilers_1 : decode cX7_boilers 1 = .ok (.iconst 0, 1) := by decide +kernel
theorem dX7_boilers_2 : decode cX7_boilers 2 = .ok (.bipush 40, 2) := by decide +kernel
theorem dX7_boilers_4 : decode cX7_boilers 4 = .ok (.invokestatic 85, 3) := by decide +kernel
theorem dX7_boilers_7 : decode cX7_boilers 7 = .ok (.ifCond .eq 13, 3) := by decide +kernel
theorem dX7_boilers_10 : decode cX7_boilers 10 = .ok (.iload_n 2, 1) := by decide +kernel
theorem dX7_boilers_11 : decode cX7_boilers 11 = .ok (.iconst 1, 1) := by decide +kernel
theorem dX7_boilers_12 : decode cX7_boilers 12 = .ok (.bipush 40, 2) := by decide +kernel
theorem dX7_boilers_14 : decode cX7_boilers 14 = .ok (.invokestatic 85, 3) := by decide +kernel
theorem dX7_boilers_17 : decode cX7_boilers 17 = .ok (.ifCond .ne 10, 3) := by decide +kernel
theorem dX7_boilers_20 : decode cX7_boilers 20 = .ok (.aload_n 0, 1) := by decide +kernel
theorem dX7_boilers_21 : decode cX7_boilers 21 = .ok (.iconst 0, 1) := by decide +kernel
theorem dX7_boilers_22 : decode cX7_boilers 22 = .ok (.invokevirtual 89, 3) := by decide +kernel
theorem dX7_boilers_25 : decode cX7_boilers 25 = .ok (.i2l, 1) := by decide +kernel
theorem dX7_boilers_26 : decode cX7_boilers 26 = .ok (.lreturn, 1) := by decide +kernel
theorem dX7_boilers_27 : decode cX7_boilers 27 = .ok (.iload_n 1, 1) := by decide +kernel
theorem dX7_boilers_28 : decode cX7_boilers 28 = .ok (.ifCond .ne 5, 3) := by decide +kernel
theorem dX7_boilers_31 : decode cX7_boilers 31 = .ok (.lconst 1, 1) := by decide +kernel
theorem dX7_boilers_32 : decode cX7_boilers 32 = .ok (.lreturn, 1) := by decide +kernel
theorem dX7_boilers_33 : decode cX7_boilers 33 = .ok (.aload_n 0, 1) := by decide +kernel
theorem dX7_boilers_34 : decode cX7_boilers 34 = .ok (.getfield 76, 3) := by decide +kernel
theorem dX7_boilers_37 : decode cX7_boilers 37 = .ok (.iconst 0, 1) := by decide +kernel
theorem dX7_boilers_38 : decode cX7_boilers 38 = .ok (.lconst 1, 1) := by decide +kernel
theorem dX7_boilers_39 : decode cX7_boilers 39 = .ok (.lastore, 1) := by decide +kernel
theorem dX7_boilers_40 : decode cX7_boilers 40 = .ok (.iconst 1, 1) := by decide +kernel
theorem dX7_boilers_41 : decode cX7_boilers 41 = .ok (.istore_n 3, 1) := by decide +kernel
theorem dX7_boilers_42 : decode cX7_boilers 42 = .ok (.iload_n 3, 1) := by decide +kernel
theorem dX7_boilers_43 : decode cX7_boilers 43 = .ok (.iload_n 1, 1) := by decide +kernel
theorem dX7_boilers_44 : decode cX7_boilers 44 = .ok (.if_icmp .gt 55, 3) := by decide +kernel
theorem dX7_boilers_47 : decode cX7_boilers 47 = .ok (.aload_n 0, 1) := by decide +kernel
theorem dX7_boilers_48 : decode cX7_boilers 48 = .ok (.getfield 76, 3) := by decide +kernel
theorem dX7_boilers_51 : decode cX7_boilers 51 = .ok (.iload_n 3, 1) := by decide +kernel
theorem dX7_boilers_52 : decode cX7_boilers 52 = .ok (.lconst 0, 1) := by decide +kernel
theorem dX7_boilers_53 : decode cX7_boilers 53 = .ok (.lastore, 1) := by decide +kernel
theorem dX7_boilers_54 : decode cX7_boilers 54 = .ok (.iconst 1, 1) := by decide +kernel
theorem dX7_boilers_55 : decode cX7_boilers 55 = .ok (.istore 4, 2) := by decide +kernel
theorem dX7_boilers_57 : decode cX7_boilers 57 = .ok (.iload 4, 2) := by decide +kernel
theorem dX7_boilers_59 : decode cX7_boilers 59 = .ok (.iload_n 2, 1) := by decide +kernel
theorem dX7_boilers_60 : decode cX7_boilers 60 = .ok (.if_icmp .gt 33, 3) := by decide +kernel
theorem dX7_boilers_63 : decode cX7_boilers 63 = .ok (.iload 4, 2) := by decide +kernel
theorem dX7_boilers_65 : decode cX7_boilers 65 = .ok (.iload_n 3, 1) := by decide +kernel
theorem dX7_boilers_66 : decode cX7_boilers 66 = .ok (.if_icmp .gt 27, 3) := by decide +kernel
theorem dX7_boilers_69 : decode cX7_boilers 69 = .ok (.aload_n 0, 1) := by decide +kernel
theorem dX7_boilers_70 : decode cX7_boilers 70 = .ok (.getfield 76, 3) := by decide +kernel
theorem dX7_boilers_73 : decode cX7_boilers 73 = .ok (.iload_n 3, 1) := by decide +kernel
theorem dX7_boilers_74 : decode cX7_boilers 74 = .ok (.dup2, 1) := by decide +kernel
theorem dX7_boilers_75 : decode cX7_boilers 75 = .ok (.laload, 1) := by decide +kernel
theorem dX7_boilers_76 : decode cX7_boilers 76 = .ok (.aload_n 0, 1) := by decide +kernel
theorem dX7_boilers_77 : decode cX7_boilers 77 = .ok (.getfield 76, 3) := by decide +kernel
theorem dX7_boilers_80 : decode cX7_boilers 80 = .ok (.iload_n 3, 1) := by decide +kernel
theorem dX7_boilers_81 : decode cX7_boilers 81 = .ok (.iload 4, 2) := by decide +kernel
theorem dX7_boilers_83 : decode cX7_boilers 83 = .ok (.isub, 1) := by decide +kernel
theorem dX7_boilers_84 : decode cX7_boilers 84 = .ok (.laload, 1) := by decide +kernel
theorem dX7_boilers_85 : decode cX7_boilers 85 = .ok (.ladd, 1) := by decide +kernel
theorem dX7_boilers_86 : decode cX7_boilers 86 = .ok (.lastore, 1) := by decide +kernel
theorem dX7_boilers_87 : decode cX7_boilers 87 = .ok (.iinc 4 1, 3) := by decide +kernel
theorem dX7_boilers_90 : decode cX7_boilers 90 = .ok (.goto (-33), 3) := by decide +kernel
theorem dX7_boilers_93 : decode cX7_boilers 93 = .ok (.iinc 3 1, 3) := by decide +kernel
theorem dX7_boilers_96 : decode cX7_boilers 96 = .ok (.goto (-54), 3) := by decide +kernel
theorem dX7_boilers_99 : decode cX7_boilers 99 = .ok (.ldc2_w 259, 3) := by decide +kernel
theorem dX7_boilers_102 : decode cX7_boilers 102 = .ok (.aload_n 0, 1) := by decide +kernel
theorem dX7_boilers_103 : decode cX7_boilers 103 = .ok (.getfield 76, 3) := by decide +kernel
theorem dX7_boilers_106 : decode cX7_boilers 106 = .ok (.iload_n 1, 1) := by decide +kernel
theorem dX7_boilers_107 : decode cX7_boilers 107 = .ok (.laload, 1) := by decide +kernel
theorem dX7_boilers_108 : decode cX7_boilers 108 = .ok (.lmul, 1) := by decide +kernel
theorem dX7_boilers_109 : decode cX7_boilers 109 = .ok (.lreturn, 1) := by decide +kernel
set_option maxRecDepth 20000 in
theorem ggX7_steams_X7_isWithin : GoodIn wsX7_steams wsX7_isWithin := goodIn_r _ [13] (by decide +kernel) (by decide +kernel)
set_option maxRecDepth 20000 in
theorem gX7_steams_X7_isWithin : GoodIn wsX7_steams (va_wsS RX7 85 yX7_isWithin wsX7_isWithin) := goodIn_app (goodIn_of _ (by decide +kernel)) ggX7_steams_X7_isWithin
set_option maxRecDepth 20000 in
theorem ggX7_steams_X7_finding : GoodIn wsX7_steams wsX7_finding := goodIn_r _ [17, 18, 19, 125, 126, 127, 128, 129, 130, 131, 132, 133, 134, 135, 136, 137] (by decide +kernel) (by decide +kernel)
set_option maxRecDepth 20000 in
theorem gX7_steams_X7_finding : GoodIn wsX7_steams (wsV RX7 89 RX7 yX7_finding wsX7_finding) := goodIn_app (goodIn_of _ (by decide +kernel)) ggX7_steams_X7_finding
set_option maxRecDepth 20000 in
theorem ggX7_steams_X6_draw : GoodIn wsX7_steams wsX6_draw := goodIn_r _ [24, 25, 26, 138, 139, 140, 141, 142, 143, 144, 145, 146, 147, 148, 149, 150, 151] (by decide +kernel) (by decide +kernel)
set_option maxRecDepth 20000 in
theorem gX7_steams_X6_draw : GoodIn wsX7_steams (wsV RX7 261 RX6 yX6_draw wsX6_draw) := goodIn_app (goodIn_of _ (by decide +kernel)) ggX7_steams_X6_draw
set_option maxRecDepth 20000 in
theorem ggX7_steams_X6_seenCells : GoodIn wsX7_steams wsX6_seenCells := goodIn_r _ [30, 31, 32, 33, 34, 23, 35, 36, 37, 38, 39, 40, 41, 42, 7, 43, 44, 45, 46, 47, 48, 49, 138, 139, 140, 141, 142, 143, 144, 145, 146, 147, 148, 149, 150, 151] (by decide +kernel) (by decide +kernel)
set_option maxRecDepth 20000 in
theorem gX7_steams_X6_seenCells : GoodIn wsX7_steams (wsV RX7 151 RX6 yX6_seenCells wsX6_seenCells) := goodIn_app (goodIn_of _ (by decide +kernel)) ggX7_steams_X6_seenCells
set_option maxRecDepth 20000 in
theorem ggX7_steams_X7_passMinute : GoodIn wsX7_steams wsX7_passMinute := goodIn_r _ [53, 1, 54, 55, 3, 56, 5, 6, 7, 8, 2, 57, 58, 59, 60, 61, 62, 63, 64, 65, 66, 67, 68, 69, 70, 71, 72, 73, 74, 75, 76, 77, 78, 79, 80, 81, 39, 82, 83, 48, 49, 84, 85, 86, 87, 88, 89, 90, 91, 92, 93, 94, 95, 96, 97, 98, 99, 100, 101, 102, 103, 104, 105, 106, 107, 44, 45, 46, 47, 108, 109, 110, 111, 112, 113, 114, 115, 116, 117, 118, 119, 120, 121, 122, 123, 124, 125, 126, 127, 128, 129, 130, 131, 132, 133, 134, 135, 136, 137, 138, 139, 140, 141, 142, 143, 144, 145, 146, 147, 148, 149, 150, 151, 152, 153, 154, 155, 156] (by decide +kernel) (by decide +kernel)
set_option maxRecDepth 20000 in
theorem gX7_steams_X7_passMinute : GoodIn wsX7_steams (wsV RX7 171 RX7 yX7_passMinute wsX7_passMinute) := goodIn_app (goodIn_of _ (by decide +kernel)) ggX7_steams_X7_passMinute
theorem dX7_steams_0 : decode cX7_steams 0 = .ok (.iload_n 1, 1) := by decide +kernel
theorem dX7_steams_1 : decode cX7_steams 1 = .ok (.iconst 1, 1) := by decide +kernel
theorem dX7_steams_2 : decode cX7_steams 2 = .ok (.bipush 20, 2) := by decide +kernel
theorem dX7_steams_4 : decode cX7_steams 4 = .ok (.invokestatic 85, 3) := by decide +kernel
theorem dX7_steams_7 : decode cX7_steams 7 = .ok (.ifCond .ne 9, 3) := by decide +kernel
theorem dX7_steams_10 : decode cX7_steams 10 = .ok (.aload_n 0, 1) := by decide +kernel
theorem dX7_steams_11 : decode cX7_steams 11 = .ok (.iconst 0, 1) := by decide +kernel
theorem dX7_steams_12 : decode cX7_steams 12 = .ok (.invokevirtual 89, 3) := by decide +kernel
theorem dX7_steams_15 : decode cX7_steams 15 = .ok (.ireturn, 1) := by decide +kernel
theorem dX7_steams_16 : decode cX7_steams 16 = .ok (.aload_n 0, 1) := by decide +kernel
theorem dX7_steams_17 : decode cX7_steams 17 = .ok (.getfield 10, 3) := by decide +kernel
theorem dX7_steams_20 : decode cX7_steams 20 = .ok (.getfield 167, 3) := by decide +kernel
theorem dX7_steams_23 : decode cX7_steams 23 = .ok (.iload_n 1, 1) := by decide +kernel
theorem dX7_steams_24 : decode cX7_steams 24 = .ok (.iadd, 1) := by decide +kernel
theorem dX7_steams_25 : decode cX7_steams 25 = .ok (.ldc 170, 2) := by decide +kernel
theorem dX7_steams_27 : decode cX7_steams 27 = .ok (.if_icmp .le 9, 3) := by decide +kernel
theorem dX7_steams_30 : decode cX7_steams 30 = .ok (.aload_n 0, 1) := by decide +kernel
theorem dX7_steams_31 : decode cX7_steams 31 = .ok (.iconst 4, 1) := by decide +kernel
theorem dX7_steams_32 : decode cX7_steams 32 = .ok (.invokevirtual 89, 3) := by decide +kernel
theorem dX7_steams_35 : decode cX7_steams 35 = .ok (.ireturn, 1) := by decide +kernel
theorem dX7_steams_36 : decode cX7_steams 36 = .ok (.iconst 0, 1) := by decide +kernel
theorem dX7_steams_37 : decode cX7_steams 37 = .ok (.istore_n 2, 1) := by decide +kernel
theorem dX7_steams_38 : decode cX7_steams 38 = .ok (.iconst 0, 1) := by decide +kernel
theorem dX7_steams_39 : decode cX7_steams 39 = .ok (.istore_n 3, 1) := by decide +kernel
theorem dX7_steams_40 : decode cX7_steams 40 = .ok (.iload_n 3, 1) := by decide +kernel
theorem dX7_steams_41 : decode cX7_steams 41 = .ok (.iload_n 1, 1) := by decide +kernel
theorem dX7_steams_42 : decode cX7_steams 42 = .ok (.if_icmp .ge 69, 3) := by decide +kernel
theorem dX7_steams_45 : decode cX7_steams 45 = .ok (.aload_n 0, 1) := by decide +kernel
theorem dX7_steams_46 : decode cX7_steams 46 = .ok (.getfield 10, 3) := by decide +kernel
theorem dX7_steams_49 : decode cX7_steams 49 = .ok (.invokevirtual 261, 3) := by decide +kernel
theorem dX7_steams_52 : decode cX7_steams 52 = .ok (.bipush 48, 2) := by decide +kernel
theorem dX7_steams_54 : decode cX7_steams 54 = .ok (.irem, 1) := by decide +kernel
theorem dX7_steams_55 : decode cX7_steams 55 = .ok (.istore 4, 2) := by decide +kernel
theorem dX7_steams_57 : decode cX7_steams 57 = .ok (.aload_n 0, 1) := by decide +kernel
theorem dX7_steams_58 : decode cX7_steams 58 = .ok (.getfield 10, 3) := by decide +kernel
theorem dX7_steams_61 : decode cX7_steams 61 = .ok (.getfield 93, 3) := by decide +kernel
theorem dX7_steams_64 : decode cX7_steams 64 = .ok (.iload 4, 2) := by decide +kernel
theorem dX7_steams_66 : decode cX7_steams 66 = .ok (.bipush 9, 2) := by decide +kernel
theorem dX7_steams_68 : decode cX7_steams 68 = .ok (.aload_n 0, 1) := by decide +kernel
theorem dX7_steams_69 : decode cX7_steams 69 = .ok (.getfield 10, 3) := by decide +kernel
theorem dX7_steams_72 : decode cX7_steams 72 = .ok (.getfield 93, 3) := by decide +kernel
theorem dX7_steams_75 : decode cX7_steams 75 = .ok (.iload 4, 2) := by decide +kernel
theorem dX7_steams_77 : decode cX7_steams 77 = .ok (.iaload, 1) := by decide +kernel
theorem dX7_steams_78 : decode cX7_steams 78 = .ok (.iconst 1, 1) := by decide +kernel
theorem dX7_steams_79 : decode cX7_steams 79 = .ok (.iadd, 1) := by decide +kernel
theorem dX7_steams_80 : decode cX7_steams 80 = .ok (.invokestatic 264, 3) := by decide +kernel
theorem dX7_steams_83 : decode cX7_steams 83 = .ok (.iastore, 1) := by decide +kernel
theorem dX7_steams_84 : decode cX7_steams 84 = .ok (.iload_n 2, 1) := by decide +kernel
theorem dX7_steams_85 : decode cX7_steams 85 = .ok (.aload_n 0, 1) := by decide +kernel
theorem dX7_steams_86 : decode cX7_steams 86 = .ok (.aload_n 0, 1) := by decide +kernel
theorem dX7_steams_87 : decode cX7_steams 87 = .ok (.getfield 10, 3) := by decide +kernel
theorem dX7_steams_90 : decode cX7_steams 90 = .ok (.aload_n 0, 1) := by decide +kernel
theorem dX7_steams_91 : decode cX7_steams 91 = .ok (.getfield 10, 3) := by decide +kernel
theorem dX7_steams_94 : decode cX7_steams 94 = .ok (.getfield 115, 3) := by decide +kernel
theorem dX7_steams_97 : decode cX7_steams 97 = .ok (.invokevirtual 151, 3) := by decide +kernel
theorem dX7_steams_100 : decode cX7_steams 100 = .ok (.invokevirtual 171, 3) := by decide +kernel
theorem dX7_steams_103 : decode cX7_steams 103 = .ok (.iadd, 1) := by decide +kernel
theorem dX7_steams_104 : decode cX7_steams 104 = .ok (.istore_n 2, 1) := by decide +kernel
theorem dX7_steams_105 : decode cX7_steams 105 = .ok (.iinc 3 1, 3) := by decide +kernel
theorem dX7_steams_108 : decode cX7_steams 108 = .ok (.goto (-68), 3) := by decide +kernel
theorem dX7_steams_111 : decode cX7_steams 111 = .ok (.iload_n 2, 1) := by decide +kernel
theorem dX7_steams_112 : decode cX7_steams 112 = .ok (.ireturn, 1) := by decide +kernel
theorem dX7_seed_0 : decode cX7_seed 0 = .ok (.aload_n 0, 1) := by decide +kernel
theorem dX7_seed_1 : decode cX7_seed 1 = .ok (.getfield 10, 3) := by decide +kernel
theorem dX7_seed_4 : decode cX7_seed 4 = .ok (.getfield 269, 3) := by decide +kernel
theorem dX7_seed_7 : decode cX7_seed 7 = .ok (.istore_n 2, 1) := by decide +kernel
theorem dX7_seed_8 : decode cX7_seed 8 = .ok (.aload_n 0, 1) := by decide +kernel
theorem dX7_seed_9 : decode cX7_seed 9 = .ok (.getfield 10, 3) := by decide +kernel
theorem dX7_seed_12 : decode cX7_seed 12 = .ok (.iload_n 1, 1) := by decide +kernel
theorem dX7_seed_13 : decode cX7_seed 13 = .ok (.putfield 269, 3) := by decide +kernel
theorem dX7_seed_16 : decode cX7_seed 16 = .ok (.iload_n 2, 1) := by decide +kernel
theorem dX7_seed_17 : decode cX7_seed 17 = .ok (.ireturn, 1) := by decide +kernel
set_option maxRecDepth 20000 in
theorem ggX7_feed_X7_isWithin : GoodIn wsX7_feed wsX7_isWithin := goodIn_r _ [6] (by decide +kernel) (by decide +kernel)
set_option maxRecDepth 20000 in
theorem gX7_feed_X7_isWithin : GoodIn wsX7_feed (va_wsS RX7 85 yX7_isWithin wsX7_isWithin) := goodIn_app (goodIn_of _ (by decide +kernel)) ggX7_feed_X7_isWithin
set_option maxRecDepth 20000 in
theorem ggX7_feed_X7_finding : GoodIn wsX7_feed wsX7_finding := goodIn_r _ [10, 11, 12, 24, 25, 26, 27, 28, 29, 30, 31, 32, 33, 34, 35, 36] (by decide +kernel) (by decide +kernel)
set_option maxRecDepth 20000 in
theorem gX7_feed_X7_finding : GoodIn wsX7_feed (wsV RX7 89 RX7 yX7_finding wsX7_finding) := goodIn_app (goodIn_of _ (by decide +kernel)) ggX7_feed_X7_finding
set_option maxRecDepth 20000 in
theorem ggX7_feed_X2_append : GoodIn wsX7_feed wsX2_append := goodIn_r _ [17, 18, 19, 20, 21, 22, 16, 23, 37, 38, 39, 40, 41, 42] (by decide +kernel) (by decide +kernel)
set_option maxRecDepth 20000 in
theorem gX7_feed_X2_append : GoodIn wsX7_feed (wsV RX7 275 RX2 yX2_append wsX2_append) := goodIn_app (goodIn_of _ (by decide +kernel)) ggX7_feed_X2_append
theorem dX7_feed_0 : decode cX7_feed 0 = .ok (.iload_n 2, 1) := by decide +kernel
theorem dX7_feed_1 : decode cX7_feed 1 = .ok (.iconst 1, 1) := by decide +kernel
theorem dX7_feed_2 : decode cX7_feed 2 = .ok (.iconst 4, 1) := by decide +kernel
theorem dX7_feed_3 : decode cX7_feed 3 = .ok (.invokestatic 85, 3) := by decide +kernel
theorem dX7_feed_6 : decode cX7_feed 6 = .ok (.ifCond .ne 9, 3) := by decide +kernel
theorem dX7_feed_9 : decode cX7_feed 9 = .ok (.aload_n 0, 1) := by decide +kernel
theorem dX7_feed_10 : decode cX7_feed 10 = .ok (.iconst 0, 1) := by decide +kernel
theorem dX7_feed_11 : decode cX7_feed 11 = .ok (.invokevirtual 89, 3) := by decide +kernel
theorem dX7_feed_14 : decode cX7_feed 14 = .ok (.ireturn, 1) := by decide +kernel
theorem dX7_feed_15 : decode cX7_feed 15 = .ok (.aload_n 0, 1) := by decide +kernel
theorem dX7_feed_16 : decode cX7_feed 16 = .ok (.getfield 48, 3) := by decide +kernel
theorem dX7_feed_19 : decode cX7_feed 19 = .ok (.getfield 272, 3) := by decide +kernel
theorem dX7_feed_22 : decode cX7_feed 22 = .ok (.iload_n 2, 1) := by decide +kernel
theorem dX7_feed_23 : decode cX7_feed 23 = .ok (.iadd, 1) := by decide +kernel
theorem dX7_feed_24 : decode cX7_feed 24 = .ok (.bipush 120, 2) := by decide +kernel
theorem dX7_feed_26 : decode cX7_feed 26 = .ok (.if_icmp .le 9, 3) := by decide +kernel
theorem dX7_feed_29 : decode cX7_feed 29 = .ok (.aload_n 0, 1) := by decide +kernel
theorem dX7_feed_30 : decode cX7_feed 30 = .ok (.iconst 1, 1) := by decide +kernel
theorem dX7_feed_31 : decode cX7_feed 31 = .ok (.invokevirtual 89, 3) := by decide +kernel
theorem dX7_feed_34 : decode cX7_feed 34 = .ok (.ireturn, 1) := by decide +kernel
theorem dX7_feed_35 : decode cX7_feed 35 = .ok (.iload_n 2, 1) := by decide +kernel
theorem dX7_feed_36 : decode cX7_feed 36 = .ok (.iconst 1, 1) := by decide +kernel
theorem dX7_feed_37 : decode cX7_feed 37 = .ok (.isub, 1) := by decide +kernel
theorem dX7_feed_38 : decode cX7_feed 38 = .ok (.istore_n 3, 1) := by decide +kernel
theorem dX7_feed_39 : decode cX7_feed 39 = .ok (.iload_n 3, 1) := by decide +kernel
theorem dX7_feed_40 : decode cX7_feed 40 = .ok (.ifCond .lt 26, 3) := by decide +kernel
theorem dX7_feed_43 : decode cX7_feed 43 = .ok (.aload_n 0, 1) := by decide +kernel
theorem dX7_feed_44 : decode cX7_feed 44 = .ok (.getfield 48, 3) := by decide +kernel
theorem dX7_feed_47 : decode cX7_feed 47 = .ok (.iload_n 1, 1) := by decide +kernel
theorem dX7_feed_48 : decode cX7_feed 48 = .ok (.bipush 8, 2) := by decide +kernel
theorem dX7_feed_50 : decode cX7_feed 50 = .ok (.iload_n 3, 1) := by decide +kernel
theorem dX7_feed_51 : decode cX7_feed 51 = .ok (.imul, 1) := by decide +kernel
theorem dX7_feed_52 : decode cX7_feed 52 = .ok (.iushr, 1) := by decide +kernel
theorem dX7_feed_53 : decode cX7_feed 53 = .ok (.sipush 255, 3) := by decide +kernel
theorem dX7_feed_56 : decode cX7_feed 56 = .ok (.iand, 1) := by decide +kernel
theorem dX7_feed_57 : decode cX7_feed 57 = .ok (.invokevirtual 275, 3) := by decide +kernel
theorem dX7_feed_60 : decode cX7_feed 60 = .ok (.iinc 3 (-1), 3) := by decide +kernel
theorem dX7_feed_63 : decode cX7_feed 63 = .ok (.goto (-24), 3) := by decide +kernel
theorem dX7_feed_66 : decode cX7_feed 66 = .ok (.aload_n 0, 1) := by decide +kernel
theorem dX7_feed_67 : decode cX7_feed 67 = .ok (.getfield 48, 3) := by decide +kernel
theorem dX7_feed_70 : decode cX7_feed 70 = .ok (.getfield 272, 3) := by decide +kernel
theorem dX7_feed_73 : decode cX7_feed 73 = .ok (.ireturn, 1) := by decide +kernel
theorem dX7_wipe_0 : decode cX7_wipe 0 = .ok (.aload_n 0, 1) := by decide +kernel
theorem dX7_wipe_1 : decode cX7_wipe 1 = .ok (.getfield 48, 3) := by decide +kernel
theorem dX7_wipe_4 : decode cX7_wipe 4 = .ok (.getfield 272, 3) := by decide +kernel
theorem dX7_wipe_7 : decode cX7_wipe 7 = .ok (.istore_n 1, 1) := by decide +kernel
theorem dX7_wipe_8 : decode cX7_wipe 8 = .ok (.aload_n 0, 1) := by decide +kernel
theorem dX7_wipe_9 : decode cX7_wipe 9 = .ok (.getfield 48, 3) := by decide +kernel
theorem dX7_wipe_12 : decode cX7_wipe 12 = .ok (.iconst 0, 1) := by decide +kernel
theorem dX7_wipe_13 : decode cX7_wipe 13 = .ok (.putfield 272, 3) := by decide +kernel
theorem dX7_wipe_16 : decode cX7_wipe 16 = .ok (.iload_n 1, 1) := by decide +kernel
theorem dX7_wipe_17 : decode cX7_wipe 17 = .ok (.ireturn, 1) := by decide +kernel
set_option maxRecDepth 20000 in
theorem ggX7_text_X6_become : GoodIn wsX7_text wsX6_become := goodIn_r _ [10, 11, 12, 13, 14, 15, 16, 17, 18, 19, 20, 21, 22, 23, 24, 25, 26, 27, 28, 182, 183, 184, 185, 186, 187, 188, 189, 190, 191, 192, 193, 194, 195] (by decide +kernel) (by decide +kernel)
set_option maxRecDepth 20000 in
theorem gX7_text_X6_become : GoodIn wsX7_text (wsV RX7 278 RX6 yX6_become wsX6_become) := goodIn_app (goodIn_of _ (by decide +kernel)) ggX7_text_X6_become
set_option maxRecDepth 20000 in
theorem ggX7_text_X3_read : GoodIn wsX7_text wsX3_read := goodIn_r _ [33, 34, 35, 36, 37, 38, 39, 40, 41, 42, 43, 44, 45, 46, 47, 48, 49, 50, 51, 52, 53, 54, 32, 55, 56, 57, 58, 59, 60, 61, 62, 63, 64, 65, 66, 67, 68, 69, 70, 71, 72, 73, 74, 75, 76, 77, 78, 79, 80, 81, 82, 83, 84, 85, 86, 87, 88, 89, 90, 91, 92, 93, 94, 95, 96, 97, 98, 99, 100, 101, 102, 103, 104, 105, 106, 107, 108, 109, 110, 111, 112, 113, 114, 115, 116, 117, 118, 119, 120, 121, 122, 123, 124, 125, 126, 127, 128, 129, 130, 9, 131, 25, 18, 19, 20, 21, 22, 132, 133, 134, 135, 136, 137, 138, 139, 140, 141, 142, 143, 144, 145, 146, 147, 148, 149, 150, 151, 152, 153, 154, 155, 156, 157, 158, 159, 160, 161, 162, 196, 197, 198, 176, 177, 178, 179, 180, 181, 182, 183, 184, 185, 186, 187, 188, 189, 190, 191, 192, 193, 194, 195] (by decide +kernel) (by decide +kernel)
set_option maxRecDepth 20000 in
theorem gX7_text_X3_read : GoodIn wsX7_text (wsV RX7 281 RX3 yX3_read wsX3_read) := goodIn_app (goodIn_of _ (by decide +kernel)) ggX7_text_X3_read
theorem dX7_text_0 : decode cX7_text 0 = .ok (.aload_n 0, 1) := by decide +kernel
theorem dX7_text_1 : decode cX7_text 1 = .ok (.getfield 19, 3) := by decide +kernel
theorem dX7_text_4 : decode cX7_text 4 = .ok (.aload_n 0, 1) := by decide +kernel
theorem dX7_text_5 : decode cX7_text 5 = .ok (.getfield 10, 3) := by decide +kernel
theorem dX7_text_8 : decode cX7_text 8 = .ok (.invokevirtual 278, 3) := by decide +kernel
theorem dX7_text_11 : decode cX7_text 11 = .ok (.aload_n 0, 1) := by decide +kernel
theorem dX7_text_12 : decode cX7_text 12 = .ok (.getfield 57, 3) := by decide +kernel
theorem dX7_text_15 : decode cX7_text 15 = .ok (.invokevirtual 281, 3) := by decide +kernel
theorem dX7_text_18 : decode cX7_text 18 = .ok (.istore_n 1, 1) := by decide +kernel
theorem dX7_text_19 : decode cX7_text 19 = .ok (.iload_n 1, 1) := by decide +kernel
theorem dX7_text_20 : decode cX7_text 20 = .ok (.ifCond .lt 14, 3) := by decide +kernel
theorem dX7_text_23 : decode cX7_text 23 = .ok (.aload_n 0, 1) := by decide +kernel
theorem dX7_text_24 : decode cX7_text 24 = .ok (.getfield 10, 3) := by decide +kernel
theorem dX7_text_27 : decode cX7_text 27 = .ok (.aload_n 0, 1) := by decide +kernel
theorem dX7_text_28 : decode cX7_text 28 = .ok (.getfield 19, 3) := by decide +kernel
theorem dX7_text_31 : decode cX7_text 31 = .ok (.invokevirtual 278, 3) := by decide +kernel
theorem dX7_text_34 : decode cX7_text 34 = .ok (.aload_n 0, 1) := by decide +kernel
theorem dX7_text_35 : decode cX7_text 35 = .ok (.getfield 48, 3) := by decide +kernel
theorem dX7_text_38 : decode cX7_text 38 = .ok (.iconst 0, 1) := by decide +kernel
theorem dX7_text_39 : decode cX7_text 39 = .ok (.putfield 272, 3) := by decide +kernel
theorem dX7_text_42 : decode cX7_text 42 = .ok (.iload_n 1, 1) := by decide +kernel
theorem dX7_text_43 : decode cX7_text 43 = .ok (.ireturn, 1) := by decide +kernel
set_option maxRecDepth 20000 in
theorem ggX7_hold_X7_isSpot : GoodIn wsX7_hold wsX7_isSpot := goodIn_r _ [6, 7, 8, 5, 9] (by decide +kernel) (by decide +kernel)
set_option maxRecDepth 20000 in
theorem gX7_hold_X7_isSpot : GoodIn wsX7_hold (va_wsS RX7 284 yX7_isSpot wsX7_isSpot) := goodIn_app (goodIn_of _ (by decide +kernel)) ggX7_hold_X7_isSpot
set_option maxRecDepth 20000 in
theorem ggX7_hold_X7_isBather : GoodIn wsX7_hold wsX7_isBather := goodIn_r _ [13, 1, 14, 7, 8, 5, 9, 21, 22, 23, 24, 25, 26, 27, 28, 29, 30, 31, 32, 33, 34, 35, 36, 37, 38, 39, 40, 41, 42, 43, 44, 45, 46, 47] (by decide +kernel) (by decide +kernel)
set_option maxRecDepth 20000 in
theorem gX7_hold_X7_isBather : GoodIn wsX7_hold (wsV RX7 129 RX7 yX7_isBather wsX7_isBather) := goodIn_app (goodIn_of _ (by decide +kernel)) ggX7_hold_X7_isBather
set_option maxRecDepth 20000 in
theorem ggX7_hold_X7_finding : GoodIn wsX7_hold wsX7_finding := goodIn_r _ [18, 19, 20, 21, 22, 23, 24, 25, 26, 27, 28, 29, 30, 31, 32, 33] (by decide +kernel) (by decide +kernel)
set_option maxRecDepth 20000 in
theorem gX7_hold_X7_finding : GoodIn wsX7_hold (wsV RX7 89 RX7 yX7_finding wsX7_finding) := goodIn_app (goodIn_of _ (by decide +kernel)) ggX7_hold_X7_finding
theorem dX7_hold_0 : decode cX7_hold 0 = .ok (.iload_n 1, 1) := by decide +kernel
theorem dX7_hold_1 : decode cX7_hold 1 = .ok (.invokestatic 284, 3) := by decide +kernel
theorem dX7_hold_4 : decode cX7_hold 4 = .ok (.ifCond .eq 16, 3) := by decide +kernel
theorem dX7_hold_7 : decode cX7_hold 7 = .ok (.iload_n 2, 1) := by decide +kernel
theorem dX7_hold_8 : decode cX7_hold 8 = .ok (.iconst (-1), 1) := by decide +kernel
theorem dX7_hold_9 : decode cX7_hold 9 = .ok (.if_icmp .eq 17, 3) := by decide +kernel
theorem dX7_hold_12 : decode cX7_hold 12 = .ok (.aload_n 0, 1) := by decide +kernel
theorem dX7_hold_13 : decode cX7_hold 13 = .ok (.iload_n 2, 1) := by decide +kernel
theorem dX7_hold_14 : decode cX7_hold 14 = .ok (.invokevirtual 129, 3) := by decide +kernel
theorem dX7_hold_17 : decode cX7_hold 17 = .ok (.ifCond .ne 9, 3) := by decide +kernel
theorem dX7_hold_20 : decode cX7_hold 20 = .ok (.aload_n 0, 1) := by decide +kernel
theorem dX7_hold_21 : decode cX7_hold 21 = .ok (.iconst 0, 1) := by decide +kernel
theorem dX7_hold_22 : decode cX7_hold 22 = .ok (.invokevirtual 89, 3) := by decide +kernel
theorem dX7_hold_25 : decode cX7_hold 25 = .ok (.ireturn, 1) := by decide +kernel
theorem dX7_hold_26 : decode cX7_hold 26 = .ok (.aload_n 0, 1) := by decide +kernel
theorem dX7_hold_27 : decode cX7_hold 27 = .ok (.getfield 10, 3) := by decide +kernel
theorem dX7_hold_30 : decode cX7_hold 30 = .ok (.getfield 287, 3) := by decide +kernel
theorem dX7_hold_33 : decode cX7_hold 33 = .ok (.iload_n 1, 1) := by decide +kernel
theorem dX7_hold_34 : decode cX7_hold 34 = .ok (.iload_n 2, 1) := by decide +kernel
theorem dX7_hold_35 : decode cX7_hold 35 = .ok (.iastore, 1) := by decide +kernel
theorem dX7_hold_36 : decode cX7_hold 36 = .ok (.iconst 1, 1) := by decide +kernel
theorem dX7_hold_37 : decode cX7_hold 37 = .ok (.ireturn, 1) := by decide +kernel
set_option maxRecDepth 20000 in
theorem ggX7_as_X7_isSpot : GoodIn wsX7_as wsX7_isSpot := goodIn_r _ [7, 8, 9, 6, 10] (by decide +kernel) (by decide +kernel)
set_option maxRecDepth 20000 in
theorem gX7_as_X7_isSpot : GoodIn wsX7_as (va_wsS RX7 284 yX7_isSpot wsX7_isSpot) := goodIn_app (goodIn_of _ (by decide +kernel)) ggX7_as_X7_isSpot
set_option maxRecDepth 20000 in
theorem ggX7_as_X7_isKind : GoodIn wsX7_as wsX7_isKind := goodIn_r _ [13, 8, 9, 6, 10] (by decide +kernel) (by decide +kernel)
set_option maxRecDepth 20000 in
theorem gX7_as_X7_isKind : GoodIn wsX7_as (va_wsS RX7 119 yX7_isKind wsX7_isKind) := goodIn_app (goodIn_of _ (by decide +kernel)) ggX7_as_X7_isKind
set_option maxRecDepth 20000 in
theorem ggX7_as_X7_finding : GoodIn wsX7_as wsX7_finding := goodIn_r _ [17, 18, 19, 30, 31, 32, 33, 34, 35, 36, 37, 38, 39, 40, 41, 42] (by decide +kernel) (by decide +kernel)
set_option maxRecDepth 20000 in
theorem gX7_as_X7_finding : GoodIn wsX7_as (wsV RX7 89 RX7 yX7_finding wsX7_finding) := goodIn_app (goodIn_of _ (by decide +kernel)) ggX7_as_X7_finding
set_option maxRecDepth 20000 in
theorem ggX7_as_X7_isBather : GoodIn wsX7_as wsX7_isBather := goodIn_r _ [23, 1, 24, 8, 9, 6, 10, 30, 31, 32, 33, 34, 35, 36, 37, 38, 39, 40, 41, 42, 43, 44, 45, 46, 47, 48, 49, 50, 51, 52, 53, 54, 55, 56] (by decide +kernel) (by decide +kernel)
set_option maxRecDepth 20000 in
theorem gX7_as_X7_isBather : GoodIn wsX7_as (wsV RX7 129 RX7 yX7_isBather wsX7_isBather) := goodIn_app (goodIn_of _ (by decide +kernel)) ggX7_as_X7_isBather
set_option maxRecDepth 20000 in
theorem ggX7_as_X4_isOfKind : GoodIn wsX7_as wsX4_isOfKind := goodIn_r _ [28, 29] (by decide +kernel) (by decide +kernel)
set_option maxRecDepth 20000 in
theorem gX7_as_X4_isOfKind : GoodIn wsX7_as (va_wsS RX7 290 yX4_isOfKind wsX4_isOfKind) := goodIn_app (goodIn_of _ (by decide +kernel)) ggX7_as_X4_isOfKind
theorem dX7_as_0 : decode cX7_as 0 = .ok (.iload_n 1, 1) := by decide +kernel
theorem dX7_as_1 : decode cX7_as 1 = .ok (.invokestatic 284, 3) := by decide +kernel
theorem dX7_as_4 : decode cX7_as 4 = .ok (.ifCond .eq 10, 3) := by decide +kernel
theorem dX7_as_7 : decode cX7_as 7 = .ok (.iload_n 2, 1) := by decide +kernel
theorem dX7_as_8 : decode cX7_as 8 = .ok (.invokestatic 119, 3) := by decide +kernel
theorem dX7_as_11 : decode cX7_as 11 = .ok (.ifCond .ne 9, 3) := by decide +kernel
theorem dX7_as_14 : decode cX7_as 14 = .ok (.aload_n 0, 1) := by decide +kernel
theorem dX7_as_15 : decode cX7_as 15 = .ok (.iconst 0, 1) := by decide +kernel
theorem dX7_as_16 : decode cX7_as 16 = .ok (.invokevirtual 89, 3) := by decide +kernel
theorem dX7_as_19 : decode cX7_as 19 = .ok (.ireturn, 1) := by decide +kernel
theorem dX7_as_20 : decode cX7_as 20 = .ok (.aload_n 0, 1) := by decide +kernel
theorem dX7_as_21 : decode cX7_as 21 = .ok (.getfield 10, 3) := by decide +kernel
theorem dX7_as_24 : decode cX7_as 24 = .ok (.getfield 287, 3) := by decide +kernel
theorem dX7_as_27 : decode cX7_as 27 = .ok (.iload_n 1, 1) := by decide +kernel
theorem dX7_as_28 : decode cX7_as 28 = .ok (.iaload, 1) := by decide +kernel
theorem dX7_as_29 : decode cX7_as 29 = .ok (.istore_n 3, 1) := by decide +kernel
theorem dX7_as_30 : decode cX7_as 30 = .ok (.aload_n 0, 1) := by decide +kernel
theorem dX7_as_31 : decode cX7_as 31 = .ok (.iload_n 3, 1) := by decide +kernel
theorem dX7_as_32 : decode cX7_as 32 = .ok (.invokevirtual 129, 3) := by decide +kernel
theorem dX7_as_35 : decode cX7_as 35 = .ok (.ifCond .ne 9, 3) := by decide +kernel
theorem dX7_as_38 : decode cX7_as 38 = .ok (.aload_n 0, 1) := by decide +kernel
theorem dX7_as_39 : decode cX7_as 39 = .ok (.iconst 5, 1) := by decide +kernel
theorem dX7_as_40 : decode cX7_as 40 = .ok (.invokevirtual 89, 3) := by decide +kernel
theorem dX7_as_43 : decode cX7_as 43 = .ok (.ireturn, 1) := by decide +kernel
theorem dX7_as_44 : decode cX7_as 44 = .ok (.aload_n 0, 1) := by decide +kernel
theorem dX7_as_45 : decode cX7_as 45 = .ok (.getfield 10, 3) := by decide +kernel
theorem dX7_as_48 : decode cX7_as 48 = .ok (.getfield 132, 3) := by decide +kernel
theorem dX7_as_51 : decode cX7_as 51 = .ok (.iload_n 3, 1) := by decide +kernel
theorem dX7_as_52 : decode cX7_as 52 = .ok (.iaload, 1) := by decide +kernel
theorem dX7_as_53 : decode cX7_as 53 = .ok (.iload_n 2, 1) := by decide +kernel
theorem dX7_as_54 : decode cX7_as 54 = .ok (.invokestatic 290, 3) := by decide +kernel
theorem dX7_as_57 : decode cX7_as 57 = .ok (.ifCond .eq 7, 3) := by decide +kernel
theorem dX7_as_60 : decode cX7_as 60 = .ok (.iload_n 3, 1) := by decide +kernel
theorem dX7_as_61 : decode cX7_as 61 = .ok (.goto 8, 3) := by decide +kernel
theorem dX7_as_64 : decode cX7_as 64 = .ok (.aload_n 0, 1) := by decide +kernel
theorem dX7_as_65 : decode cX7_as 65 = .ok (.iconst 2, 1) := by decide +kernel
theorem dX7_as_66 : decode cX7_as 66 = .ok (.invokevirtual 89, 3) := by decide +kernel
theorem dX7_as_69 : decode cX7_as 69 = .ok (.ireturn, 1) := by decide +kernel
set_option maxRecDepth 20000 in
theorem ggX7_sheet_X7_isSheet : GoodIn wsX7_sheet wsX7_isSheet := goodIn_r _ [6, 7, 8, 5, 9] (by decide +kernel) (by decide +kernel)
set_option maxRecDepth 20000 in
theorem gX7_sheet_X7_isSheet : GoodIn wsX7_sheet (va_wsS RX7 243 yX7_isSheet wsX7_isSheet) := goodIn_app (goodIn_of _ (by decide +kernel)) ggX7_sheet_X7_isSheet
set_option maxRecDepth 20000 in
theorem ggX7_sheet_X7_finding : GoodIn wsX7_sheet wsX7_finding := goodIn_r _ [13, 14, 15, 24, 25, 26, 27, 28, 29, 30, 31, 32, 33, 34, 35, 36] (by decide +kernel) (by decide +kernel)
set_option maxRecDepth 20000 in
theorem gX7_sheet_X7_finding : GoodIn wsX7_sheet (wsV RX7 89 RX7 yX7_finding wsX7_finding) := goodIn_app (goodIn_of _ (by decide +kernel)) ggX7_sheet_X7_finding
set_option maxRecDepth 20000 in
theorem ggX7_sheet_X1_begin : GoodIn wsX7_sheet wsX1_begin := goodIn_r _ [20, 21, 22, 23, 37, 38, 39] (by decide +kernel) (by decide +kernel)
set_option maxRecDepth 20000 in
theorem gX7_sheet_X1_begin : GoodIn wsX7_sheet (wsV RX7 294 RX1 yX1_begin wsX1_begin) := goodIn_app (goodIn_of _ (by decide +kernel)) ggX7_sheet_X1_begin
theorem dX7_sheet_0 : decode cX7_sheet 0 = .ok (.iload_n 1, 1) := by decide +kernel
theorem dX7_sheet_1 : decode cX7_sheet 1 = .ok (.invokestatic 243, 3) := by decide +kernel
theorem dX7_sheet_4 : decode cX7_sheet 4 = .ok (.ifCond .eq 25, 3) := by decide +kernel
theorem dX7_sheet_7 : decode cX7_sheet 7 = .ok (.iload_n 2, 1) := by decide +kernel
theorem dX7_sheet_8 : decode cX7_sheet 8 = .ok (.ifCond .eq 27, 3) := by decide +kernel
theorem dX7_sheet_11 : decode cX7_sheet 11 = .ok (.iload_n 2, 1) := by decide +kernel
theorem dX7_sheet_12 : decode cX7_sheet 12 = .ok (.bipush 8, 2) := by decide +kernel
theorem dX7_sheet_14 : decode cX7_sheet 14 = .ok (.if_icmp .eq 21, 3) := by decide +kernel
theorem dX7_sheet_17 : decode cX7_sheet 17 = .ok (.iload_n 2, 1) := by decide +kernel
theorem dX7_sheet_18 : decode cX7_sheet 18 = .ok (.bipush 16, 2) := by decide +kernel
theorem dX7_sheet_20 : decode cX7_sheet 20 = .ok (.if_icmp .eq 15, 3) := by decide +kernel
theorem dX7_sheet_23 : decode cX7_sheet 23 = .ok (.iload_n 2, 1) := by decide +kernel
theorem dX7_sheet_24 : decode cX7_sheet 24 = .ok (.bipush 32, 2) := by decide +kernel
theorem dX7_sheet_26 : decode cX7_sheet 26 = .ok (.if_icmp .eq 9, 3) := by decide +kernel
theorem dX7_sheet_29 : decode cX7_sheet 29 = .ok (.aload_n 0, 1) := by decide +kernel
theorem dX7_sheet_30 : decode cX7_sheet 30 = .ok (.iconst 0, 1) := by decide +kernel
theorem dX7_sheet_31 : decode cX7_sheet 31 = .ok (.invokevirtual 89, 3) := by decide +kernel
theorem dX7_sheet_34 : decode cX7_sheet 34 = .ok (.ireturn, 1) := by decide +kernel
theorem dX7_sheet_35 : decode cX7_sheet 35 = .ok (.iload_n 3, 1) := by decide +kernel
theorem dX7_sheet_36 : decode cX7_sheet 36 = .ok (.ifCond .ge 10, 3) := by decide +kernel
theorem dX7_sheet_39 : decode cX7_sheet 39 = .ok (.aload_n 0, 1) := by decide +kernel
theorem dX7_sheet_40 : decode cX7_sheet 40 = .ok (.bipush 6, 2) := by decide +kernel
theorem dX7_sheet_42 : decode cX7_sheet 42 = .ok (.invokevirtual 89, 3) := by decide +kernel
theorem dX7_sheet_45 : decode cX7_sheet 45 = .ok (.ireturn, 1) := by decide +kernel
theorem dX7_sheet_46 : decode cX7_sheet 46 = .ok (.iload_n 3, 1) := by decide +kernel
theorem dX7_sheet_47 : decode cX7_sheet 47 = .ok (.bipush 40, 2) := by decide +kernel
theorem dX7_sheet_49 : decode cX7_sheet 49 = .ok (.if_icmp .le 9, 3) := by decide +kernel
theorem dX7_sheet_52 : decode cX7_sheet 52 = .ok (.aload_n 0, 1) := by decide +kernel
theorem dX7_sheet_53 : decode cX7_sheet 53 = .ok (.iconst 0, 1) := by decide +kernel
theorem dX7_sheet_54 : decode cX7_sheet 54 = .ok (.invokevirtual 89, 3) := by decide +kernel
theorem dX7_sheet_57 : decode cX7_sheet 57 = .ok (.ireturn, 1) := by decide +kernel
theorem dX7_sheet_58 : decode cX7_sheet 58 = .ok (.aload_n 0, 1) := by decide +kernel
theorem dX7_sheet_59 : decode cX7_sheet 59 = .ok (.getfield 63, 3) := by decide +kernel
theorem dX7_sheet_62 : decode cX7_sheet 62 = .ok (.iload_n 1, 1) := by decide +kernel
theorem dX7_sheet_63 : decode cX7_sheet 63 = .ok (.aaload, 1) := by decide +kernel
theorem dX7_sheet_64 : decode cX7_sheet 64 = .ok (.iload_n 2, 1) := by decide +kernel
theorem dX7_sheet_65 : decode cX7_sheet 65 = .ok (.iload_n 3, 1) := by decide +kernel
theorem dX7_sheet_66 : decode cX7_sheet 66 = .ok (.invokevirtual 294, 3) := by decide +kernel
theorem dX7_sheet_69 : decode cX7_sheet 69 = .ok (.aload_n 0, 1) := by decide +kernel
theorem dX7_sheet_70 : decode cX7_sheet 70 = .ok (.getfield 63, 3) := by decide +kernel
theorem dX7_sheet_73 : decode cX7_sheet 73 = .ok (.iload_n 1, 1) := by decide +kernel
theorem dX7_sheet_74 : decode cX7_sheet 74 = .ok (.aaload, 1) := by decide +kernel
theorem dX7_sheet_75 : decode cX7_sheet 75 = .ok (.getfield 298, 3) := by decide +kernel
theorem dX7_sheet_78 : decode cX7_sheet 78 = .ok (.ireturn, 1) := by decide +kernel
set_option maxRecDepth 20000 in
theorem ggX7_write_X7_isSheet : GoodIn wsX7_write wsX7_isSheet := goodIn_r _ [6, 7, 8, 5, 9] (by decide +kernel) (by decide +kernel)
set_option maxRecDepth 20000 in
theorem gX7_write_X7_isSheet : GoodIn wsX7_write (va_wsS RX7 243 yX7_isSheet wsX7_isSheet) := goodIn_app (goodIn_of _ (by decide +kernel)) ggX7_write_X7_isSheet
set_option maxRecDepth 20000 in
theorem ggX7_write_X7_finding : GoodIn wsX7_write wsX7_finding := goodIn_r _ [13, 14, 15, 27, 28, 29, 30, 31, 32, 33, 34, 35, 36, 37, 38, 39] (by decide +kernel) (by decide +kernel)
set_option maxRecDepth 20000 in
theorem gX7_write_X7_finding : GoodIn wsX7_write (wsV RX7 89 RX7 yX7_finding wsX7_finding) := goodIn_app (goodIn_of _ (by decide +kernel)) ggX7_write_X7_finding
set_option maxRecDepth 20000 in
theorem ggX7_write_X1_isMissing : GoodIn wsX7_write wsX1_isMissing := goodIn_r _ [20, 21, 40, 41, 42] (by decide +kernel) (by decide +kernel)
set_option maxRecDepth 20000 in
theorem gX7_write_X1_isMissing : GoodIn wsX7_write (wsV RX7 246 RX1 yX1_isMissing wsX1_isMissing) := goodIn_app (goodIn_of _ (by decide +kernel)) ggX7_write_X1_isMissing
set_option maxRecDepth 20000 in
theorem ggX7_write_X7_isWithin : GoodIn wsX7_write wsX7_isWithin := goodIn_r _ [9] (by decide +kernel) (by decide +kernel)
set_option maxRecDepth 20000 in
theorem gX7_write_X7_isWithin : GoodIn wsX7_write (va_wsS RX7 85 yX7_isWithin wsX7_isWithin) := goodIn_app (goodIn_of _ (by decide +kernel)) ggX7_write_X7_isWithin
set_option maxRecDepth 20000 in
theorem ggX7_write_X1_put : GoodIn wsX7_write wsX1_put := goodIn_r _ [25, 21, 26, 40, 41, 42] (by decide +kernel) (by decide +kernel)
set_option maxRecDepth 20000 in
theorem gX7_write_X1_put : GoodIn wsX7_write (wsV RX7 299 RX1 yX1_put wsX1_put) := goodIn_app (goodIn_of _ (by decide +kernel)) ggX7_write_X1_put
theorem dX7_write_0 : decode cX7_write 0 = .ok (.iload_n 1, 1) := by decide +kernel
theorem dX7_write_1 : decode cX7_write 1 = .ok (.invokestatic 243, 3) := by decide +kernel
theorem dX7_write_4 : decode cX7_write 4 = .ok (.ifCond .ne 9, 3) := by decide +kernel
theorem dX7_write_7 : decode cX7_write 7 = .ok (.aload_n 0, 1) := by decide +kernel
theorem dX7_write_8 : decode cX7_write 8 = .ok (.iconst 0, 1) := by decide +kernel
theorem dX7_write_9 : decode cX7_write 9 = .ok (.invokevirtual 89, 3) := by decide +kernel
theorem dX7_write_12 : decode cX7_write 12 = .ok (.ireturn, 1) := by decide +kernel
theorem dX7_write_13 : decode cX7_write 13 = .ok (.aload_n 0, 1) := by decide +kernel
theorem dX7_write_14 : decode cX7_write 14 = .ok (.getfield 63, 3) := by decide +kernel
theorem dX7_write_17 : decode cX7_write 17 = .ok (.iload_n 1, 1) := by decide +kernel
theorem dX7_write_18 : decode cX7_write 18 = .ok (.aaload, 1) := by decide +kernel
theorem dX7_write_19 : decode cX7_write 19 = .ok (.astore 4, 2) := by decide +kernel
theorem dX7_write_21 : decode cX7_write 21 = .ok (.aload 4, 2) := by decide +kernel
theorem dX7_write_23 : decode cX7_write 23 = .ok (.invokevirtual 246, 3) := by decide +kernel
theorem dX7_write_26 : decode cX7_write 26 = .ok (.ifCond .eq 9, 3) := by decide +kernel
theorem dX7_write_29 : decode cX7_write 29 = .ok (.aload_n 0, 1) := by decide +kernel
theorem dX7_write_30 : decode cX7_write 30 = .ok (.iconst 5, 1) := by decide +kernel
theorem dX7_write_31 : decode cX7_write 31 = .ok (.invokevirtual 89, 3) := by decide +kernel
theorem dX7_write_34 : decode cX7_write 34 = .ok (.ireturn, 1) := by decide +kernel
theorem dX7_write_35 : decode cX7_write 35 = .ok (.iload_n 2, 1) := by decide +kernel
theorem dX7_write_36 : decode cX7_write 36 = .ok (.iconst 0, 1) := by decide +kernel
theorem dX7_write_37 : decode cX7_write 37 = .ok (.aload 4, 2) := by decide +kernel
theorem dX7_write_39 : decode cX7_write 39 = .ok (.getfield 298, 3) := by decide +kernel
theorem dX7_write_42 : decode cX7_write 42 = .ok (.iconst 1, 1) := by decide +kernel
theorem dX7_write_43 : decode cX7_write 43 = .ok (.isub, 1) := by decide +kernel
theorem dX7_write_44 : decode cX7_write 44 = .ok (.invokestatic 85, 3) := by decide +kernel
theorem dX7_write_47 : decode cX7_write 47 = .ok (.ifCond .ne 9, 3) := by decide +kernel
theorem dX7_write_50 : decode cX7_write 50 = .ok (.aload_n 0, 1) := by decide +kernel
theorem dX7_write_51 : decode cX7_write 51 = .ok (.iconst 0, 1) := by decide +kernel
theorem dX7_write_52 : decode cX7_write 52 = .ok (.invokevirtual 89, 3) := by decide +kernel
theorem dX7_write_55 : decode cX7_write 55 = .ok (.ireturn, 1) := by decide +kernel
theorem dX7_write_56 : decode cX7_write 56 = .ok (.aload 4, 2) := by decide +kernel
theorem dX7_write_58 : decode cX7_write 58 = .ok (.iload_n 2, 1) := by decide +kernel
theorem dX7_write_59 : decode cX7_write 59 = .ok (.iload_n 3, 1) := by decide +kernel
theorem dX7_write_60 : decode cX7_write 60 = .ok (.invokevirtual 299, 3) := by decide +kernel
theorem dX7_write_63 : decode cX7_write 63 = .ok (.iconst 1, 1) := by decide +kernel
theorem dX7_write_64 : decode cX7_write 64 = .ok (.ireturn, 1) := by decide +kernel
set_option maxRecDepth 20000 in
theorem ggX7_copy_X7_isSheet : GoodIn wsX7_copy wsX7_isSheet := goodIn_r _ [11, 12, 13, 10, 14] (by decide +kernel) (by decide +kernel)
set_option maxRecDepth 20000 in
theorem gX7_copy_X7_isSheet : GoodIn wsX7_copy (va_wsS RX7 243 yX7_isSheet wsX7_isSheet) := goodIn_app (goodIn_of _ (by decide +kernel)) ggX7_copy_X7_isSheet
set_option maxRecDepth 20000 in
theorem ggX7_copy_X7_finding : GoodIn wsX7_copy wsX7_finding := goodIn_r _ [18, 19, 20, 32, 33, 34, 35, 36, 37, 38, 39, 40, 41, 42, 43, 44] (by decide +kernel) (by decide +kernel)
set_option maxRecDepth 20000 in
theorem gX7_copy_X7_finding : GoodIn wsX7_copy (wsV RX7 89 RX7 yX7_finding wsX7_finding) := goodIn_app (goodIn_of _ (by decide +kernel)) ggX7_copy_X7_finding
set_option maxRecDepth 20000 in
theorem ggX7_copy_X1_isMissing : GoodIn wsX7_copy wsX1_isMissing := goodIn_r _ [25, 26, 45, 46, 47] (by decide +kernel) (by decide +kernel)
set_option maxRecDepth 20000 in
theorem gX7_copy_X1_isMissing : GoodIn wsX7_copy (wsV RX7 246 RX1 yX1_isMissing wsX1_isMissing) := goodIn_app (goodIn_of _ (by decide +kernel)) ggX7_copy_X1_isMissing
set_option maxRecDepth 20000 in
theorem ggX7_copy_X1_hasPart : GoodIn wsX7_copy wsX1_hasPart := goodIn_r _ [30, 31, 45, 46, 47] (by decide +kernel) (by decide +kernel)
set_option maxRecDepth 20000 in
theorem gX7_copy_X1_hasPart : GoodIn wsX7_copy (wsV RX7 305 RX1 yX1_hasPart wsX1_hasPart) := goodIn_app (goodIn_of _ (by decide +kernel)) ggX7_copy_X1_hasPart
theorem dX7_copy_0 : decode cX7_copy 0 = .ok (.iload_n 1, 1) := by decide +kernel
theorem dX7_copy_1 : decode cX7_copy 1 = .ok (.invokestatic 243, 3) := by decide +kernel
theorem dX7_copy_4 : decode cX7_copy 4 = .ok (.ifCond .eq 10, 3) := by decide +kernel
theorem dX7_copy_7 : decode cX7_copy 7 = .ok (.iload_n 3, 1) := by decide +kernel
theorem dX7_copy_8 : decode cX7_copy 8 = .ok (.invokestatic 243, 3) := by decide +kernel
theorem dX7_copy_11 : decode cX7_copy 11 = .ok (.ifCond .ne 9, 3) := by decide +kernel
theorem dX7_copy_14 : decode cX7_copy 14 = .ok (.aload_n 0, 1) := by decide +kernel
theorem dX7_copy_15 : decode cX7_copy 15 = .ok (.iconst 0, 1) := by decide +kernel
theorem dX7_copy_16 : decode cX7_copy 16 = .ok (.invokevirtual 89, 3) := by decide +kernel
theorem dX7_copy_19 : decode cX7_copy 19 = .ok (.ireturn, 1) := by decide +kernel
theorem dX7_copy_20 : decode cX7_copy 20 = .ok (.aload_n 0, 1) := by decide +kernel
theorem dX7_copy_21 : decode cX7_copy 21 = .ok (.getfield 63, 3) := by decide +kernel
theorem dX7_copy_24 : decode cX7_copy 24 = .ok (.iload_n 1, 1) := by decide +kernel
theorem dX7_copy_25 : decode cX7_copy 25 = .ok (.aaload, 1) := by decide +kernel
theorem dX7_copy_26 : decode cX7_copy 26 = .ok (.invokevirtual 246, 3) := by decide +kernel
theorem dX7_copy_29 : decode cX7_copy 29 = .ok (.ifCond .ne 15, 3) := by decide +kernel
theorem dX7_copy_32 : decode cX7_copy 32 = .ok (.aload_n 0, 1) := by decide +kernel
theorem dX7_copy_33 : decode cX7_copy 33 = .ok (.getfield 63, 3) := by decide +kernel
theorem dX7_copy_36 : decode cX7_copy 36 = .ok (.iload_n 3, 1) := by decide +kernel
theorem dX7_copy_37 : decode cX7_copy 37 = .ok (.aaload, 1) := by decide +kernel
theorem dX7_copy_38 : decode cX7_copy 38 = .ok (.invokevirtual 246, 3) := by decide +kernel
theorem dX7_copy_41 : decode cX7_copy 41 = .ok (.ifCond .eq 9, 3) := by decide +kernel
theorem dX7_copy_44 : decode cX7_copy 44 = .ok (.aload_n 0, 1) := by decide +kernel
theorem dX7_copy_45 : decode cX7_copy 45 = .ok (.iconst 5, 1) := by decide +kernel
theorem dX7_copy_46 : decode cX7_copy 46 = .ok (.invokevirtual 89, 3) := by decide +kernel
theorem dX7_copy_49 : decode cX7_copy 49 = .ok (.ireturn, 1) := by decide +kernel
theorem dX7_copy_50 : decode cX7_copy 50 = .ok (.aload_n 0, 1) := by decide +kernel
theorem dX7_copy_51 : decode cX7_copy 51 = .ok (.getfield 63, 3) := by decide +kernel
theorem dX7_copy_54 : decode cX7_copy 54 = .ok (.iload_n 1, 1) := by decide +kernel
theorem dX7_copy_55 : decode cX7_copy 55 = .ok (.aaload, 1) := by decide +kernel
theorem dX7_copy_56 : decode cX7_copy 56 = .ok (.getfield 302, 3) := by decide +kernel
theorem dX7_copy_59 : decode cX7_copy 59 = .ok (.aload_n 0, 1) := by decide +kernel
theorem dX7_copy_60 : decode cX7_copy 60 = .ok (.getfield 63, 3) := by decide +kernel
theorem dX7_copy_63 : decode cX7_copy 63 = .ok (.iload_n 3, 1) := by decide +kernel
theorem dX7_copy_64 : decode cX7_copy 64 = .ok (.aaload, 1) := by decide +kernel
theorem dX7_copy_65 : decode cX7_copy 65 = .ok (.getfield 302, 3) := by decide +kernel
theorem dX7_copy_68 : decode cX7_copy 68 = .ok (.if_icmp .eq 9, 3) := by decide +kernel
theorem dX7_copy_71 : decode cX7_copy 71 = .ok (.aload_n 0, 1) := by decide +kernel
theorem dX7_copy_72 : decode cX7_copy 72 = .ok (.iconst 2, 1) := by decide +kernel
theorem dX7_copy_73 : decode cX7_copy 73 = .ok (.invokevirtual 89, 3) := by decide +kernel
theorem dX7_copy_76 : decode cX7_copy 76 = .ok (.ireturn, 1) := by decide +kernel
theorem dX7_copy_77 : decode cX7_copy 77 = .ok (.aload_n 0, 1) := by decide +kernel
theorem dX7_copy_78 : decode cX7_copy 78 = .ok (.getfield 63, 3) := by decide +kernel
theorem dX7_copy_81 : decode cX7_copy 81 = .ok (.iload_n 1, 1) := by decide +kernel
theorem dX7_copy_82 : decode cX7_copy 82 = .ok (.aaload, 1) := by decide +kernel
theorem dX7_copy_83 : decode cX7_copy 83 = .ok (.iload_n 2, 1) := by decide +kernel
theorem dX7_copy_84 : decode cX7_copy 84 = .ok (.iload 5, 2) := by decide +kernel
theorem dX7_copy_86 : decode cX7_copy 86 = .ok (.invokevirtual 305, 3) := by decide +kernel
theorem dX7_copy_89 : decode cX7_copy 89 = .ok (.ifCond .eq 19, 3) := by decide +kernel
theorem dX7_copy_92 : decode cX7_copy 92 = .ok (.aload_n 0, 1) := by decide +kernel
theorem dX7_copy_93 : decode cX7_copy 93 = .ok (.getfield 63, 3) := by decide +kernel
theorem dX7_copy_96 : decode cX7_copy 96 = .ok (.iload_n 3, 1) := by decide +kernel
theorem dX7_copy_97 : decode cX7_copy 97 = .ok (.aaload, 1) := by decide +kernel
theorem dX7_copy_98 : decode cX7_copy 98 = .ok (.iload 4, 2) := by decide +kernel
theorem dX7_copy_100 : decode cX7_copy 100 = .ok (.iload 5, 2) := by decide +kernel
theorem dX7_copy_102 : decode cX7_copy 102 = .ok (.invokevirtual 305, 3) := by decide +kernel
theorem dX7_copy_105 : decode cX7_copy 105 = .ok (.ifCond .ne 9, 3) := by decide +kernel
theorem dX7_copy_108 : decode cX7_copy 108 = .ok (.aload_n 0, 1) := by decide +kernel
theorem dX7_copy_109 : decode cX7_copy 109 = .ok (.iconst 0, 1) := by decide +kernel
theorem dX7_copy_110 : decode cX7_copy 110 = .ok (.invokevirtual 89, 3) := by decide +kernel
theorem dX7_copy_113 : decode cX7_copy 113 = .ok (.ireturn, 1) := by decide +kernel
theorem dX7_copy_114 : decode cX7_copy 114 = .ok (.aload_n 0, 1) := by decide +kernel
theorem dX7_copy_115 : decode cX7_copy 115 = .ok (.getfield 63, 3) := by decide +kernel
theorem dX7_copy_118 : decode cX7_copy 118 = .ok (.iload_n 1, 1) := by decide +kernel
theorem dX7_copy_119 : decode cX7_copy 119 = .ok (.aaload, 1) := by decide +kernel
theorem dX7_copy_120 : decode cX7_copy 120 = .ok (.getfield 308, 3) := by decide +kernel
theorem dX7_copy_123 : decode cX7_copy 123 = .ok (.iload_n 2, 1) := by decide +kernel
theorem dX7_copy_124 : decode cX7_copy 124 = .ok (.aload_n 0, 1) := by decide +kernel
theorem dX7_copy_125 : decode cX7_copy 125 = .ok (.getfield 63, 3) := by decide +kernel
theorem dX7_copy_128 : decode cX7_copy 128 = .ok (.iload_n 3, 1) := by decide +kernel
theorem dX7_copy_129 : decode cX7_copy 129 = .ok (.aaload, 1) := by decide +kernel
theorem dX7_copy_130 : decode cX7_copy 130 = .ok (.getfield 308, 3) := by decide +kernel
theorem dX7_copy_133 : decode cX7_copy 133 = .ok (.iload 4, 2) := by decide +kernel
theorem dX7_copy_135 : decode cX7_copy 135 = .ok (.iload 5, 2) := by decide +kernel
theorem dX7_copy_137 : decode cX7_copy 137 = .ok (.invokestatic 311, 3) := by decide +kernel
theorem dX7_copy_140 : decode cX7_copy 140 = .ok (.iload 5, 2) := by decide +kernel
theorem dX7_copy_142 : decode cX7_copy 142 = .ok (.ireturn, 1) := by decide +kernel
set_option maxRecDepth 20000 in
theorem ggX7_load_X7_isSheet : GoodIn wsX7_load wsX7_isSheet := goodIn_r _ [9, 10, 11, 8, 12] (by decide +kernel) (by decide +kernel)
set_option maxRecDepth 20000 in
theorem gX7_load_X7_isSheet : GoodIn wsX7_load (va_wsS RX7 243 yX7_isSheet wsX7_isSheet) := goodIn_app (goodIn_of _ (by decide +kernel)) ggX7_load_X7_isSheet
set_option maxRecDepth 20000 in
theorem ggX7_load_X7_finding : GoodIn wsX7_load wsX7_finding := goodIn_r _ [16, 17, 18, 25, 26, 27, 28, 29, 30, 31, 32, 33, 34, 35, 36, 37] (by decide +kernel) (by decide +kernel)
set_option maxRecDepth 20000 in
theorem gX7_load_X7_finding : GoodIn wsX7_load (wsV RX7 89 RX7 yX7_finding wsX7_finding) := goodIn_app (goodIn_of _ (by decide +kernel)) ggX7_load_X7_finding
set_option maxRecDepth 20000 in
theorem ggX7_load_X1_isMissing : GoodIn wsX7_load wsX1_isMissing := goodIn_r _ [23, 24, 38, 39, 40] (by decide +kernel) (by decide +kernel)
set_option maxRecDepth 20000 in
theorem gX7_load_X1_isMissing : GoodIn wsX7_load (wsV RX7 246 RX1 yX1_isMissing wsX1_isMissing) := goodIn_app (goodIn_of _ (by decide +kernel)) ggX7_load_X1_isMissing
set_option maxRecDepth 20000 in
theorem ggX7_load_X7_isWithin : GoodIn wsX7_load wsX7_isWithin := goodIn_r _ [12] (by decide +kernel) (by decide +kernel)
set_option maxRecDepth 20000 in
theorem gX7_load_X7_isWithin : GoodIn wsX7_load (va_wsS RX7 85 yX7_isWithin wsX7_isWithin) := goodIn_app (goodIn_of _ (by decide +kernel)) ggX7_load_X7_isWithin
theorem dX7_load_0 : decode cX7_load 0 = .ok (.iload_n 1, 1) := by decide +kernel
theorem dX7_load_1 : decode cX7_load 1 = .ok (.invokestatic 243, 3) := by decide +kernel
theorem dX7_load_4 : decode cX7_load 4 = .ok (.ifCond .ne 9, 3) := by decide +kernel
theorem dX7_load_7 : decode cX7_load 7 = .ok (.aload_n 0, 1) := by decide +kernel
theorem dX7_load_8 : decode cX7_load 8 = .ok (.iconst 0, 1) := by decide +kernel
theorem dX7_load_9 : decode cX7_load 9 = .ok (.invokevirtual 89, 3) := by decide +kernel
theorem dX7_load_12 : decode cX7_load 12 = .ok (.ireturn, 1) := by decide +kernel
theorem dX7_load_13 : decode cX7_load 13 = .ok (.aload_n 0, 1) := by decide +kernel
theorem dX7_load_14 : decode cX7_load 14 = .ok (.getfield 63, 3) := by decide +kernel
theorem dX7_load_17 : decode cX7_load 17 = .ok (.iload_n 1, 1) := by decide +kernel
theorem dX7_load_18 : decode cX7_load 18 = .ok (.aaload, 1) := by decide +kernel
theorem dX7_load_19 : decode cX7_load 19 = .ok (.astore_n 2, 1) := by decide +kernel
theorem dX7_load_20 : decode cX7_load 20 = .ok (.aload_n 2, 1) := by decide +kernel
theorem dX7_load_21 : decode cX7_load 21 = .ok (.invokevirtual 246, 3) := by decide +kernel
theorem dX7_load_24 : decode cX7_load 24 = .ok (.ifCond .eq 9, 3) := by decide +kernel
theorem dX7_load_27 : decode cX7_load 27 = .ok (.aload_n 0, 1) := by decide +kernel
theorem dX7_load_28 : decode cX7_load 28 = .ok (.iconst 5, 1) := by decide +kernel
theorem dX7_load_29 : decode cX7_load 29 = .ok (.invokevirtual 89, 3) := by decide +kernel
theorem dX7_load_32 : decode cX7_load 32 = .ok (.ireturn, 1) := by decide +kernel
theorem dX7_load_33 : decode cX7_load 33 = .ok (.iconst 0, 1) := by decide +kernel
theorem dX7_load_34 : decode cX7_load 34 = .ok (.istore_n 3, 1) := by decide +kernel
theorem dX7_load_35 : decode cX7_load 35 = .ok (.iload_n 3, 1) := by decide +kernel
theorem dX7_load_36 : decode cX7_load 36 = .ok (.aload_n 2, 1) := by decide +kernel
theorem dX7_load_37 : decode cX7_load 37 = .ok (.getfield 298, 3) := by decide +kernel
theorem dX7_load_40 : decode cX7_load 40 = .ok (.if_icmp .ge 39, 3) := by decide +kernel
theorem dX7_load_43 : decode cX7_load 43 = .ok (.aload_n 2, 1) := by decide +kernel
theorem dX7_load_44 : decode cX7_load 44 = .ok (.getfield 308, 3) := by decide +kernel
theorem dX7_load_47 : decode cX7_load 47 = .ok (.iload_n 3, 1) := by decide +kernel
theorem dX7_load_48 : decode cX7_load 48 = .ok (.iaload, 1) := by decide +kernel
theorem dX7_load_49 : decode cX7_load 49 = .ok (.iconst 0, 1) := by decide +kernel
theorem dX7_load_50 : decode cX7_load 50 = .ok (.bipush 9, 2) := by decide +kernel
theorem dX7_load_52 : decode cX7_load 52 = .ok (.invokestatic 85, 3) := by decide +kernel
theorem dX7_load_55 : decode cX7_load 55 = .ok (.ifCond .eq 24, 3) := by decide +kernel
theorem dX7_load_58 : decode cX7_load 58 = .ok (.aload_n 0, 1) := by decide +kernel
theorem dX7_load_59 : decode cX7_load 59 = .ok (.getfield 10, 3) := by decide +kernel
theorem dX7_load_62 : decode cX7_load 62 = .ok (.getfield 93, 3) := by decide +kernel
theorem dX7_load_65 : decode cX7_load 65 = .ok (.iload_n 3, 1) := by decide +kernel
theorem dX7_load_66 : decode cX7_load 66 = .ok (.aload_n 2, 1) := by decide +kernel
theorem dX7_load_67 : decode cX7_load 67 = .ok (.getfield 308, 3) := by decide +kernel
theorem dX7_load_70 : decode cX7_load 70 = .ok (.iload_n 3, 1) := by decide +kernel
theorem dX7_load_71 : decode cX7_load 71 = .ok (.iaload, 1) := by decide +kernel
theorem dX7_load_72 : decode cX7_load 72 = .ok (.iastore, 1) := by decide +kernel
theorem dX7_load_73 : decode cX7_load 73 = .ok (.iinc 3 1, 3) := by decide +kernel
theorem dX7_load_76 : decode cX7_load 76 = .ok (.goto (-41), 3) := by decide +kernel
theorem dX7_load_79 : decode cX7_load 79 = .ok (.iload_n 3, 1) := by decide +kernel
theorem dX7_load_80 : decode cX7_load 80 = .ok (.ireturn, 1) := by decide +kernel
set_option maxRecDepth 20000 in
theorem ggX7_judge_X7_isSheet : GoodIn wsX7_judge wsX7_isSheet := goodIn_r _ [9, 10, 11, 8, 12] (by decide +kernel) (by decide +kernel)
set_option maxRecDepth 20000 in
theorem gX7_judge_X7_isSheet : GoodIn wsX7_judge (va_wsS RX7 243 yX7_isSheet wsX7_isSheet) := goodIn_app (goodIn_of _ (by decide +kernel)) ggX7_judge_X7_isSheet
set_option maxRecDepth 20000 in
theorem ggX7_judge_X7_finding : GoodIn wsX7_judge wsX7_finding := goodIn_r _ [16, 17, 18, 57, 58, 59, 60, 61, 62, 63, 64, 65, 66, 67, 68, 69] (by decide +kernel) (by decide +kernel)
set_option maxRecDepth 20000 in
theorem gX7_judge_X7_finding : GoodIn wsX7_judge (wsV RX7 89 RX7 yX7_finding wsX7_finding) := goodIn_app (goodIn_of _ (by decide +kernel)) ggX7_judge_X7_finding
set_option maxRecDepth 20000 in
theorem ggX7_judge_X1_isMissing : GoodIn wsX7_judge wsX1_isMissing := goodIn_r _ [23, 24, 84, 85, 86] (by decide +kernel) (by decide +kernel)
set_option maxRecDepth 20000 in
theorem gX7_judge_X1_isMissing : GoodIn wsX7_judge (wsV RX7 246 RX1 yX1_isMissing wsX1_isMissing) := goodIn_app (goodIn_of _ (by decide +kernel)) ggX7_judge_X1_isMissing
set_option maxRecDepth 20000 in
theorem ggX7_judge_X6_seenCells : GoodIn wsX7_judge wsX6_seenCells := goodIn_r _ [29, 30, 31, 32, 33, 28, 34, 35, 36, 37, 38, 39, 40, 41, 42, 43, 44, 45, 46, 47, 48, 49, 70, 71, 72, 73, 74, 75, 76, 77, 78, 79, 80, 81, 82, 83] (by decide +kernel) (by decide +kernel)
set_option maxRecDepth 20000 in
theorem gX7_judge_X6_seenCells : GoodIn wsX7_judge (wsV RX7 151 RX6 yX6_seenCells wsX6_seenCells) := goodIn_app (goodIn_of _ (by decide +kernel)) ggX7_judge_X6_seenCells
set_option maxRecDepth 20000 in
theorem ggX7_judge_X0_isCell : GoodIn wsX7_judge wsX0_isCell := goodIn_r _ [52] (by decide +kernel) (by decide +kernel)
set_option maxRecDepth 20000 in
theorem gX7_judge_X0_isCell : GoodIn wsX7_judge (va_wsS RX7 79 yX0_isCell wsX0_isCell) := goodIn_app (goodIn_of _ (by decide +kernel)) ggX7_judge_X0_isCell
set_option maxRecDepth 20000 in
theorem ggX7_judge_X0_has : GoodIn wsX7_judge wsX0_has := goodIn_r _ [55] (by decide +kernel) (by decide +kernel)
set_option maxRecDepth 20000 in
theorem gX7_judge_X0_has : GoodIn wsX7_judge (va_wsS RX7 317 yX0_has wsX0_has) := goodIn_app (goodIn_of _ (by decide +kernel)) ggX7_judge_X0_has
set_option maxRecDepth 20000 in
theorem ggX7_judge_X0_apart : GoodIn wsX7_judge wsX0_apart := goodIn_r _ [39, 40, 41, 42, 43, 44, 45, 38, 46, 47, 48, 49] (by decide +kernel) (by decide +kernel)
set_option maxRecDepth 20000 in
theorem gX7_judge_X0_apart : GoodIn wsX7_judge (va_wsS RX7 321 yX0_apart wsX0_apart) := goodIn_app (goodIn_of _ (by decide +kernel)) ggX7_judge_X0_apart
theorem dX7_judge_0 : decode cX7_judge 0 = .ok (.iload_n 1, 1) := by decide +kernel
theorem dX7_judge_1 : decode cX7_judge 1 = .ok (.invokestatic 243, 3) := by decide +kernel
theorem dX7_judge_4 : decode cX7_judge 4 = .ok (.ifCond .ne 9, 3) := by decide +kernel
theorem dX7_judge_7 : decode cX7_judge 7 = .ok (.aload_n 0, 1) := by decide +kernel
theorem dX7_judge_8 : decode cX7_judge 8 = .ok (.iconst 0, 1) := by decide +kernel
theorem dX7_judge_9 : decode cX7_judge 9 = .ok (.invokevirtual 89, 3) := by decide +kernel
theorem dX7_judge_12 : decode cX7_judge 12 = .ok (.ireturn, 1) := by decide +kernel
theorem dX7_judge_13 : decode cX7_judge 13 = .ok (.aload_n 0, 1) := by decide +kernel
theorem dX7_judge_14 : decode cX7_judge 14 = .ok (.getfield 63, 3) := by decide +kernel
theorem dX7_judge_17 : decode cX7_judge 17 = .ok (.iload_n 1, 1) := by decide +kernel
theorem dX7_judge_18 : decode cX7_judge 18 = .ok (.aaload, 1) := by decide +kernel
theorem dX7_judge_19 : decode cX7_judge 19 = .ok (.astore_n 2, 1) := by decide +kernel
theorem dX7_judge_20 : decode cX7_judge 20 = .ok (.aload_n 2, 1) := by decide +kernel
theorem dX7_judge_21 : decode cX7_judge 21 = .ok (.invokevirtual 246, 3) := by decide +kernel
theorem dX7_judge_24 : decode cX7_judge 24 = .ok (.ifCond .eq 9, 3) := by decide +kernel
theorem dX7_judge_27 : decode cX7_judge 27 = .ok (.aload_n 0, 1) := by decide +kernel
theorem dX7_judge_28 : decode cX7_judge 28 = .ok (.iconst 5, 1) := by decide +kernel
theorem dX7_judge_29 : decode cX7_judge 29 = .ok (.invokevirtual 89, 3) := by decide +kernel
theorem dX7_judge_32 : decode cX7_judge 32 = .ok (.ireturn, 1) := by decide +kernel
theorem dX7_judge_33 : decode cX7_judge 33 = .ok (.aload_n 0, 1) := by decide +kernel
theorem dX7_judge_34 : decode cX7_judge 34 = .ok (.getfield 10, 3) := by decide +kernel
theorem dX7_judge_37 : decode cX7_judge 37 = .ok (.aload_n 0, 1) := by decide +kernel
theorem dX7_judge_38 : decode cX7_judge 38 = .ok (.getfield 10, 3) := by decide +kernel
theorem dX7_judge_41 : decode cX7_judge 41 = .ok (.getfield 115, 3) := by decide +kernel
theorem dX7_judge_44 : decode cX7_judge 44 = .ok (.invokevirtual 151, 3) := by decide +kernel
theorem dX7_judge_47 : decode cX7_judge 47 = .ok (.lstore_n 3, 1) := by decide +kernel
theorem dX7_judge_48 : decode cX7_judge 48 = .ok (.iconst 0, 1) := by decide +kernel
theorem dX7_judge_49 : decode cX7_judge 49 = .ok (.istore 5, 2) := by decide +kernel
theorem dX7_judge_51 : decode cX7_judge 51 = .ok (.iload 5, 2) := by decide +kernel
theorem dX7_judge_53 : decode cX7_judge 53 = .ok (.aload_n 2, 1) := by decide +kernel
theorem dX7_judge_54 : decode cX7_judge 54 = .ok (.getfield 298, 3) := by decide +kernel
theorem dX7_judge_57 : decode cX7_judge 57 = .ok (.if_icmp .ge 68, 3) := by decide +kernel
theorem dX7_judge_60 : decode cX7_judge 60 = .ok (.aload_n 2, 1) := by decide +kernel
theorem dX7_judge_61 : decode cX7_judge 61 = .ok (.getfield 308, 3) := by decide +kernel
theorem dX7_judge_64 : decode cX7_judge 64 = .ok (.iload 5, 2) := by decide +kernel
theorem dX7_judge_66 : decode cX7_judge 66 = .ok (.iaload, 1) := by decide +kernel
theorem dX7_judge_67 : decode cX7_judge 67 = .ok (.istore 6, 2) := by decide +kernel
theorem dX7_judge_69 : decode cX7_judge 69 = .ok (.iload 6, 2) := by decide +kernel
theorem dX7_judge_71 : decode cX7_judge 71 = .ok (.invokestatic 79, 3) := by decide +kernel
theorem dX7_judge_74 : decode cX7_judge 74 = .ok (.ifCond .eq 12, 3) := by decide +kernel
theorem dX7_judge_77 : decode cX7_judge 77 = .ok (.lload_n 3, 1) := by decide +kernel
theorem dX7_judge_78 : decode cX7_judge 78 = .ok (.iload 6, 2) := by decide +kernel
theorem dX7_judge_80 : decode cX7_judge 80 = .ok (.invokestatic 317, 3) := by decide +kernel
theorem dX7_judge_83 : decode cX7_judge 83 = .ok (.ifCond .eq 8, 3) := by decide +kernel
theorem dX7_judge_86 : decode cX7_judge 86 = .ok (.iconst 1, 1) := by decide +kernel
theorem dX7_judge_87 : decode cX7_judge 87 = .ok (.iload 5, 2) := by decide +kernel
theorem dX7_judge_89 : decode cX7_judge 89 = .ok (.iadd, 1) := by decide +kernel
theorem dX7_judge_90 : decode cX7_judge 90 = .ok (.ireturn, 1) := by decide +kernel
theorem dX7_judge_91 : decode cX7_judge 91 = .ok (.iload 5, 2) := by decide +kernel
theorem dX7_judge_93 : decode cX7_judge 93 = .ok (.ifCond .le 26, 3) := by decide +kernel
theorem dX7_judge_96 : decode cX7_judge 96 = .ok (.aload_n 2, 1) := by decide +kernel
theorem dX7_judge_97 : decode cX7_judge 97 = .ok (.getfield 308, 3) := by decide +kernel
theorem dX7_judge_100 : decode cX7_judge 100 = .ok (.iload 5, 2) := by decide +kernel
theorem dX7_judge_102 : decode cX7_judge 102 = .ok (.iconst 1, 1) := by decide +kernel
theorem dX7_judge_103 : decode cX7_judge 103 = .ok (.isub, 1) := by decide +kernel
theorem dX7_judge_104 : decode cX7_judge 104 = .ok (.iaload, 1) := by decide +kernel
theorem dX7_judge_105 : decode cX7_judge 105 = .ok (.iload 6, 2) := by decide +kernel
theorem dX7_judge_107 : decode cX7_judge 107 = .ok (.invokestatic 321, 3) := by decide +kernel
theorem dX7_judge_110 : decode cX7_judge 110 = .ok (.iconst 1, 1) := by decide +kernel
theorem dX7_judge_111 : decode cX7_judge 111 = .ok (.if_icmp .eq 8, 3) := by decide +kernel
theorem dX7_judge_114 : decode cX7_judge 114 = .ok (.iconst 1, 1) := by decide +kernel
theorem dX7_judge_115 : decode cX7_judge 115 = .ok (.iload 5, 2) := by decide +kernel
theorem dX7_judge_117 : decode cX7_judge 117 = .ok (.iadd, 1) := by decide +kernel
theorem dX7_judge_118 : decode cX7_judge 118 = .ok (.ireturn, 1) := by decide +kernel
theorem dX7_judge_119 : decode cX7_judge 119 = .ok (.iinc 5 1, 3) := by decide +kernel
theorem dX7_judge_122 : decode cX7_judge 122 = .ok (.goto (-71), 3) := by decide +kernel
theorem dX7_judge_125 : decode cX7_judge 125 = .ok (.iconst 0, 1) := by decide +kernel
theorem dX7_judge_126 : decode cX7_judge 126 = .ok (.ireturn, 1) := by decide +kernel
set_option maxRecDepth 20000 in
theorem ggX7_image_X6_become : GoodIn wsX7_image wsX6_become := goodIn_r _ [8, 9, 10, 11, 12, 13, 14, 15, 16, 17, 18, 19, 20, 21, 22, 23, 24, 25, 26, 40, 41, 42, 43, 44, 45, 46, 47, 48, 49, 50, 51, 52, 53] (by decide +kernel) (by decide +kernel)
set_option maxRecDepth 20000 in
theorem gX7_image_X6_become : GoodIn wsX7_image (wsV RX7 278 RX6 yX6_become wsX6_become) := goodIn_app (goodIn_of _ (by decide +kernel)) ggX7_image_X6_become
theorem dX7_image_0 : decode cX7_image 0 = .ok (.aload_n 0, 1) := by decide +kernel
theorem dX7_image_1 : decode cX7_image 1 = .ok (.getfield 16, 3) := by decide +kernel
theorem dX7_image_4 : decode cX7_image 4 = .ok (.aload_n 0, 1) := by decide +kernel
theorem dX7_image_5 : decode cX7_image 5 = .ok (.getfield 10, 3) := by decide +kernel
theorem dX7_image_8 : decode cX7_image 8 = .ok (.invokevirtual 278, 3) := by decide +kernel
theorem dX7_image_11 : decode cX7_image 11 = .ok (.aload_n 0, 1) := by decide +kernel
theorem dX7_image_12 : decode cX7_image 12 = .ok (.iconst 1, 1) := by decide +kernel
theorem dX7_image_13 : decode cX7_image 13 = .ok (.putfield 22, 3) := by decide +kernel
theorem dX7_image_16 : decode cX7_image 16 = .ok (.iconst 1, 1) := by decide +kernel
theorem dX7_image_17 : decode cX7_image 17 = .ok (.ireturn, 1) := by decide +kernel
set_option maxRecDepth 20000 in
theorem ggX7_undo_X7_finding : GoodIn wsX7_undo wsX7_finding := goodIn_r _ [9, 10, 11, 35, 36, 37, 38, 39, 40, 41, 42, 43, 44, 45, 46, 47] (by decide +kernel) (by decide +kernel)
set_option maxRecDepth 20000 in
theorem gX7_undo_X7_finding : GoodIn wsX7_undo (wsV RX7 89 RX7 yX7_finding wsX7_finding) := goodIn_app (goodIn_of _ (by decide +kernel)) ggX7_undo_X7_finding
set_option maxRecDepth 20000 in
theorem ggX7_undo_X6_become : GoodIn wsX7_undo wsX6_become := goodIn_r _ [16, 17, 18, 19, 20, 21, 22, 23, 24, 25, 26, 27, 28, 29, 30, 31, 32, 33, 34, 48, 49, 50, 51, 52, 53, 54, 55, 56, 57, 58, 59, 60, 61] (by decide +kernel) (by decide +kernel)
set_option maxRecDepth 20000 in
theorem gX7_undo_X6_become : GoodIn wsX7_undo (wsV RX7 278 RX6 yX6_become wsX6_become) := goodIn_app (goodIn_of _ (by decide +kernel)) ggX7_undo_X6_become
theorem dX7_undo_0 : decode cX7_undo 0 = .ok (.aload_n 0, 1) := by decide +kernel
theorem dX7_undo_1 : decode cX7_undo 1 = .ok (.getfield 22, 3) := by decide +kernel
theorem dX7_undo_4 : decode cX7_undo 4 = .ok (.ifCond .ne 9, 3) := by decide +kernel
theorem dX7_undo_7 : decode cX7_undo 7 = .ok (.aload_n 0, 1) := by decide +kernel
theorem dX7_undo_8 : decode cX7_undo 8 = .ok (.iconst 3, 1) := by decide +kernel
theorem dX7_undo_9 : decode cX7_undo 9 = .ok (.invokevirtual 89, 3) := by decide +kernel
theorem dX7_undo_12 : decode cX7_undo 12 = .ok (.ireturn, 1) := by decide +kernel
theorem dX7_undo_13 : decode cX7_undo 13 = .ok (.aload_n 0, 1) := by decide +kernel
theorem dX7_undo_14 : decode cX7_undo 14 = .ok (.getfield 10, 3) := by decide +kernel
theorem dX7_undo_17 : decode cX7_undo 17 = .ok (.aload_n 0, 1) := by decide +kernel
theorem dX7_undo_18 : decode cX7_undo 18 = .ok (.getfield 16, 3) := by decide +kernel
theorem dX7_undo_21 : decode cX7_undo 21 = .ok (.invokevirtual 278, 3) := by decide +kernel
theorem dX7_undo_24 : decode cX7_undo 24 = .ok (.aload_n 0, 1) := by decide +kernel
theorem dX7_undo_25 : decode cX7_undo 25 = .ok (.getfield 10, 3) := by decide +kernel
theorem dX7_undo_28 : decode cX7_undo 28 = .ok (.getfield 167, 3) := by decide +kernel
theorem dX7_undo_31 : decode cX7_undo 31 = .ok (.ireturn, 1) := by decide +kernel
theorem dX7_tear_0 : decode cX7_tear 0 = .ok (.aload_n 0, 1) := by decide +kernel
theorem dX7_tear_1 : decode cX7_tear 1 = .ok (.getfield 22, 3) := by decide +kernel
theorem dX7_tear_4 : decode cX7_tear 4 = .ok (.ifCond .eq 7, 3) := by decide +kernel
theorem dX7_tear_7 : decode cX7_tear 7 = .ok (.iconst 1, 1) := by decide +kernel
theorem dX7_tear_8 : decode cX7_tear 8 = .ok (.goto 4, 3) := by decide +kernel
theorem dX7_tear_11 : decode cX7_tear 11 = .ok (.iconst 0, 1) := by decide +kernel
theorem dX7_tear_12 : decode cX7_tear 12 = .ok (.istore_n 1, 1) := by decide +kernel
theorem dX7_tear_13 : decode cX7_tear 13 = .ok (.aload_n 0, 1) := by decide +kernel
theorem dX7_tear_14 : decode cX7_tear 14 = .ok (.iconst 0, 1) := by decide +kernel
theorem dX7_tear_15 : decode cX7_tear 15 = .ok (.putfield 22, 3) := by decide +kernel
theorem dX7_tear_18 : decode cX7_tear 18 = .ok (.iload_n 1, 1) := by decide +kernel
theorem dX7_tear_19 : decode cX7_tear 19 = .ok (.ireturn, 1) := by decide +kernel
set_option maxRecDepth 20000 in
theorem ggX7_count_X6_howManyOut : GoodIn wsX7_count wsX6_howManyOut := goodIn_r _ [12, 13, 14, 15, 11, 16, 17, 18, 19, 20, 21, 22, 23, 24, 25, 26, 27, 28, 29, 60, 61, 62, 63, 64, 65, 66, 67, 68, 69, 70, 71, 72, 73] (by decide +kernel) (by decide +kernel)
set_option maxRecDepth 20000 in
theorem gX7_count_X6_howManyOut : GoodIn wsX7_count (wsV RX7 174 RX6 yX6_howManyOut wsX6_howManyOut) := goodIn_app (goodIn_of _ (by decide +kernel)) ggX7_count_X6_howManyOut
set_option maxRecDepth 20000 in
theorem ggX7_count_X6_steamOfAll : GoodIn wsX7_count wsX6_steamOfAll := goodIn_r _ [33, 34, 60, 61, 62, 63, 64, 65, 66, 67, 68, 69, 70, 71, 72, 73] (by decide +kernel) (by decide +kernel)
set_option maxRecDepth 20000 in
theorem gX7_count_X6_steamOfAll : GoodIn wsX7_count (wsV RX7 324 RX6 yX6_steamOfAll wsX6_steamOfAll) := goodIn_app (goodIn_of _ (by decide +kernel)) ggX7_count_X6_steamOfAll
set_option maxRecDepth 20000 in
theorem ggX7_count_X6_heldSpots : GoodIn wsX7_count wsX6_heldSpots := goodIn_r _ [38, 39, 60, 61, 62, 63, 64, 65, 66, 67, 68, 69, 70, 71, 72, 73] (by decide +kernel) (by decide +kernel)
set_option maxRecDepth 20000 in
theorem gX7_count_X6_heldSpots : GoodIn wsX7_count (wsV RX7 327 RX6 yX6_heldSpots wsX6_heldSpots) := goodIn_app (goodIn_of _ (by decide +kernel)) ggX7_count_X6_heldSpots
set_option maxRecDepth 20000 in
theorem ggX7_count_X7_finding : GoodIn wsX7_count wsX7_finding := goodIn_r _ [44, 45, 46, 47, 48, 49, 50, 51, 52, 53, 54, 55, 56, 57, 58, 59] (by decide +kernel) (by decide +kernel)
set_option maxRecDepth 20000 in
theorem gX7_count_X7_finding : GoodIn wsX7_count (wsV RX7 89 RX7 yX7_finding wsX7_finding) := goodIn_app (goodIn_of _ (by decide +kernel)) ggX7_count_X7_finding
theorem dX7_count_0 : decode cX7_count 0 = .ok (.iload_n 1, 1) := by decide +kernel
theorem dX7_count_1 : decode cX7_count 1 = .ok (.tableswitch 111 0 7 #[47, 55, 63, 71, 79, 87, 95, 103], 47) := by decide +kernel
theorem dX7_count_48 : decode cX7_count 48 = .ok (.aload_n 0, 1) := by decide +kernel
theorem dX7_count_49 : decode cX7_count 49 = .ok (.getfield 10, 3) := by decide +kernel
theorem dX7_count_52 : decode cX7_count 52 = .ok (.getfield 167, 3) := by decide +kernel
theorem dX7_count_55 : decode cX7_count 55 = .ok (.ireturn, 1) := by decide +kernel
theorem dX7_count_56 : decode cX7_count 56 = .ok (.aload_n 0, 1) := by decide +kernel
theorem dX7_count_57 : decode cX7_count 57 = .ok (.getfield 10, 3) := by decide +kernel
theorem dX7_count_60 : decode cX7_count 60 = .ok (.getfield 122, 3) := by decide +kernel
theorem dX7_count_63 : decode cX7_count 63 = .ok (.ireturn, 1) := by decide +kernel
theorem dX7_count_64 : decode cX7_count 64 = .ok (.aload_n 0, 1) := by decide +kernel
theorem dX7_count_65 : decode cX7_count 65 = .ok (.getfield 10, 3) := by decide +kernel
theorem dX7_count_68 : decode cX7_count 68 = .ok (.invokevirtual 174, 3) := by decide +kernel
theorem dX7_count_71 : decode cX7_count 71 = .ok (.ireturn, 1) := by decide +kernel
theorem dX7_count_72 : decode cX7_count 72 = .ok (.aload_n 0, 1) := by decide +kernel
theorem dX7_count_73 : decode cX7_count 73 = .ok (.getfield 10, 3) := by decide +kernel
theorem dX7_count_76 : decode cX7_count 76 = .ok (.getfield 181, 3) := by decide +kernel
theorem dX7_count_79 : decode cX7_count 79 = .ok (.ireturn, 1) := by decide +kernel
theorem dX7_count_80 : decode cX7_count 80 = .ok (.aload_n 0, 1) := by decide +kernel
theorem dX7_count_81 : decode cX7_count 81 = .ok (.getfield 10, 3) := by decide +kernel
theorem dX7_count_84 : decode cX7_count 84 = .ok (.invokevirtual 324, 3) := by decide +kernel
theorem dX7_count_87 : decode cX7_count 87 = .ok (.ireturn, 1) := by decide +kernel
theorem dX7_count_88 : decode cX7_count 88 = .ok (.aload_n 0, 1) := by decide +kernel
theorem dX7_count_89 : decode cX7_count 89 = .ok (.getfield 48, 3) := by decide +kernel
theorem dX7_count_92 : decode cX7_count 92 = .ok (.getfield 272, 3) := by decide +kernel
theorem dX7_count_95 : decode cX7_count 95 = .ok (.ireturn, 1) := by decide +kernel
theorem dX7_count_96 : decode cX7_count 96 = .ok (.aload_n 0, 1) := by decide +kernel
theorem dX7_count_97 : decode cX7_count 97 = .ok (.getfield 10, 3) := by decide +kernel
theorem dX7_count_100 : decode cX7_count 100 = .ok (.getfield 269, 3) := by decide +kernel
theorem dX7_count_103 : decode cX7_count 103 = .ok (.ireturn, 1) := by decide +kernel
theorem dX7_count_104 : decode cX7_count 104 = .ok (.aload_n 0, 1) := by decide +kernel
theorem dX7_count_105 : decode cX7_count 105 = .ok (.getfield 10, 3) := by decide +kernel
theorem dX7_count_108 : decode cX7_count 108 = .ok (.invokevirtual 327, 3) := by decide +kernel
theorem dX7_count_111 : decode cX7_count 111 = .ok (.ireturn, 1) := by decide +kernel
theorem dX7_count_112 : decode cX7_count 112 = .ok (.aload_n 0, 1) := by decide +kernel
theorem dX7_count_113 : decode cX7_count 113 = .ok (.iconst 0, 1) := by decide +kernel
theorem dX7_count_114 : decode cX7_count 114 = .ok (.invokevirtual 89, 3) := by decide +kernel
theorem dX7_count_117 : decode cX7_count 117 = .ok (.ireturn, 1) := by decide +kernel
set_option maxRecDepth 20000 in
theorem ggX7_status_X7_isWithin : GoodIn wsX7_status wsX7_isWithin := goodIn_r _ [5] (by decide +kernel) (by decide +kernel)
set_option maxRecDepth 20000 in
theorem gX7_status_X7_isWithin : GoodIn wsX7_status (va_wsS RX7 85 yX7_isWithin wsX7_isWithin) := goodIn_app (goodIn_of _ (by decide +kernel)) ggX7_status_X7_isWithin
set_option maxRecDepth 20000 in
theorem ggX7_status_X7_finding : GoodIn wsX7_status wsX7_finding := goodIn_r _ [9, 1, 10, 11, 12, 13, 14, 15, 16, 17, 18, 19, 20, 21, 22, 23] (by decide +kernel) (by decide +kernel)
set_option maxRecDepth 20000 in
theorem gX7_status_X7_finding : GoodIn wsX7_status (wsV RX7 89 RX7 yX7_finding wsX7_finding) := goodIn_app (goodIn_of _ (by decide +kernel)) ggX7_status_X7_finding
theorem dX7_status_0 : decode cX7_status 0 = .ok (.iload_n 1, 1) := by decide +kernel
theorem dX7_status_1 : decode cX7_status 1 = .ok (.iconst (-1), 1) := by decide +kernel
theorem dX7_status_2 : decode cX7_status 2 = .ok (.bipush 6, 2) := by decide +kernel
theorem dX7_status_4 : decode cX7_status 4 = .ok (.invokestatic 85, 3) := by decide +kernel
theorem dX7_status_7 : decode cX7_status 7 = .ok (.ifCond .ne 9, 3) := by decide +kernel
theorem dX7_status_10 : decode cX7_status 10 = .ok (.aload_n 0, 1) := by decide +kernel
theorem dX7_status_11 : decode cX7_status 11 = .ok (.iconst 0, 1) := by decide +kernel
theorem dX7_status_12 : decode cX7_status 12 = .ok (.invokevirtual 89, 3) := by decide +kernel
theorem dX7_status_15 : decode cX7_status 15 = .ok (.ireturn, 1) := by decide +kernel
theorem dX7_status_16 : decode cX7_status 16 = .ok (.iload_n 1, 1) := by decide +kernel
theorem dX7_status_17 : decode cX7_status 17 = .ok (.ifCond .lt 10, 3) := by decide +kernel
theorem dX7_status_20 : decode cX7_status 20 = .ok (.aload_n 0, 1) := by decide +kernel
theorem dX7_status_21 : decode cX7_status 21 = .ok (.getfield 68, 3) := by decide +kernel
theorem dX7_status_24 : decode cX7_status 24 = .ok (.iload_n 1, 1) := by decide +kernel
theorem dX7_status_25 : decode cX7_status 25 = .ok (.iaload, 1) := by decide +kernel
theorem dX7_status_26 : decode cX7_status 26 = .ok (.ireturn, 1) := by decide +kernel
theorem dX7_status_27 : decode cX7_status 27 = .ok (.iconst 0, 1) := by decide +kernel
theorem dX7_status_28 : decode cX7_status 28 = .ok (.istore_n 2, 1) := by decide +kernel
theorem dX7_status_29 : decode cX7_status 29 = .ok (.iconst 0, 1) := by decide +kernel
theorem dX7_status_30 : decode cX7_status 30 = .ok (.istore_n 3, 1) := by decide +kernel
theorem dX7_status_31 : decode cX7_status 31 = .ok (.iload_n 3, 1) := by decide +kernel
theorem dX7_status_32 : decode cX7_status 32 = .ok (.bipush 7, 2) := by decide +kernel
theorem dX7_status_34 : decode cX7_status 34 = .ok (.if_icmp .ge 18, 3) := by decide +kernel
theorem dX7_status_37 : decode cX7_status 37 = .ok (.iload_n 2, 1) := by decide +kernel
theorem dX7_status_38 : decode cX7_status 38 = .ok (.aload_n 0, 1) := by decide +kernel
theorem dX7_status_39 : decode cX7_status 39 = .ok (.getfield 68, 3) := by decide +kernel
theorem dX7_status_42 : decode cX7_status 42 = .ok (.iload_n 3, 1) := by decide +kernel
theorem dX7_status_43 : decode cX7_status 43 = .ok (.iaload, 1) := by decide +kernel
theorem dX7_status_44 : decode cX7_status 44 = .ok (.iadd, 1) := by decide +kernel
theorem dX7_status_45 : decode cX7_status 45 = .ok (.istore_n 2, 1) := by decide +kernel
theorem dX7_status_46 : decode cX7_status 46 = .ok (.iinc 3 1, 3) := by decide +kernel
theorem dX7_status_49 : decode cX7_status 49 = .ok (.goto (-18), 3) := by decide +kernel
theorem dX7_status_52 : decode cX7_status 52 = .ok (.iload_n 2, 1) := by decide +kernel
theorem dX7_status_53 : decode cX7_status 53 = .ok (.ireturn, 1) := by decide +kernel
theorem dX7_finding_0 : decode cX7_finding 0 = .ok (.aload_n 0, 1) := by decide +kernel
theorem dX7_finding_1 : decode cX7_finding 1 = .ok (.getfield 68, 3) := by decide +kernel
theorem dX7_finding_4 : decode cX7_finding 4 = .ok (.iload_n 1, 1) := by decide +kernel
theorem dX7_finding_5 : decode cX7_finding 5 = .ok (.dup2, 1) := by decide +kernel
theorem dX7_finding_6 : decode cX7_finding 6 = .ok (.iaload, 1) := by decide +kernel
theorem dX7_finding_7 : decode cX7_finding 7 = .ok (.iconst 1, 1) := by decide +kernel
theorem dX7_finding_8 : decode cX7_finding 8 = .ok (.iadd, 1) := by decide +kernel
theorem dX7_finding_9 : decode cX7_finding 9 = .ok (.iastore, 1) := by decide +kernel
theorem dX7_finding_10 : decode cX7_finding 10 = .ok (.ldc_w 330, 3) := by decide +kernel
theorem dX7_finding_13 : decode cX7_finding 13 = .ok (.iload_n 1, 1) := by decide +kernel
theorem dX7_finding_14 : decode cX7_finding 14 = .ok (.isub, 1) := by decide +kernel
theorem dX7_finding_15 : decode cX7_finding 15 = .ok (.ireturn, 1) := by decide +kernel
set_option maxRecDepth 20000 in
theorem ggX7_changeWithin_X7_isWithin : GoodIn wsX7_changeWithin wsX7_isWithin := goodIn_r _ [4] (by decide +kernel) (by decide +kernel)
set_option maxRecDepth 20000 in
theorem gX7_changeWithin_X7_isWithin : GoodIn wsX7_changeWithin (va_wsS RX7 85 yX7_isWithin wsX7_isWithin) := goodIn_app (goodIn_of _ (by decide +kernel)) ggX7_changeWithin_X7_isWithin
set_option maxRecDepth 20000 in
theorem ggX7_changeWithin_X7_replace : GoodIn wsX7_changeWithin wsX7_replace := goodIn_r _ [7] (by decide +kernel) (by decide +kernel)
set_option maxRecDepth 20000 in
theorem gX7_changeWithin_X7_replace : GoodIn wsX7_changeWithin (va_wsS RX7 99 yX7_replace wsX7_replace) := goodIn_app (goodIn_of _ (by decide +kernel)) ggX7_changeWithin_X7_replace
set_option maxRecDepth 20000 in
theorem ggX7_changeWithin_X7_finding : GoodIn wsX7_changeWithin wsX7_finding := goodIn_r _ [11, 12, 13, 14, 15, 16, 17, 18, 19, 20, 21, 22, 23, 24, 25, 26] (by decide +kernel) (by decide +kernel)
set_option maxRecDepth 20000 in
theorem gX7_changeWithin_X7_finding : GoodIn wsX7_changeWithin (wsV RX7 89 RX7 yX7_finding wsX7_finding) := goodIn_app (goodIn_of _ (by decide +kernel)) ggX7_changeWithin_X7_finding
theorem dX7_changeWithin_0 : decode cX7_changeWithin 0 = .ok (.iload_n 3, 1) := by decide +kernel
theorem dX7_changeWithin_1 : decode cX7_changeWithin 1 = .ok (.iconst 0, 1) := by decide +kernel
theorem dX7_changeWithin_2 : decode cX7_changeWithin 2 = .ok (.iload 4, 2) := by decide +kernel
theorem dX7_changeWithin_4 : decode cX7_changeWithin 4 = .ok (.invokestatic 85, 3) := by decide +kernel
theorem dX7_changeWithin_7 : decode cX7_changeWithin 7 = .ok (.ifCond .eq 12, 3) := by decide +kernel
theorem dX7_changeWithin_10 : decode cX7_changeWithin 10 = .ok (.aload_n 1, 1) := by decide +kernel
theorem dX7_changeWithin_11 : decode cX7_changeWithin 11 = .ok (.iload_n 2, 1) := by decide +kernel
theorem dX7_changeWithin_12 : decode cX7_changeWithin 12 = .ok (.iload_n 3, 1) := by decide +kernel
theorem dX7_changeWithin_13 : decode cX7_changeWithin 13 = .ok (.invokestatic 99, 3) := by decide +kernel
theorem dX7_changeWithin_16 : decode cX7_changeWithin 16 = .ok (.goto 8, 3) := by decide +kernel
theorem dX7_changeWithin_19 : decode cX7_changeWithin 19 = .ok (.aload_n 0, 1) := by decide +kernel
theorem dX7_changeWithin_20 : decode cX7_changeWithin 20 = .ok (.iconst 0, 1) := by decide +kernel
theorem dX7_changeWithin_21 : decode cX7_changeWithin 21 = .ok (.invokevirtual 89, 3) := by decide +kernel
theorem dX7_changeWithin_24 : decode cX7_changeWithin 24 = .ok (.ireturn, 1) := by decide +kernel
set_option maxRecDepth 20000 in
theorem ggX7_passMinute_X4_take : GoodIn wsX7_passMinute wsX4_take := goodIn_r _ [15, 16, 17, 18, 19, 20, 21, 22, 23, 24, 113, 114, 115, 116, 117, 99, 100, 101, 102, 103, 104, 105, 106, 107, 108, 109, 110, 111, 112] (by decide +kernel) (by decide +kernel)
set_option maxRecDepth 20000 in
theorem gX7_passMinute_X4_take : GoodIn wsX7_passMinute (wsV RX7 147 RX4 yX4_take wsX4_take) := goodIn_app (goodIn_of _ (by decide +kernel)) ggX7_passMinute_X4_take
set_option maxRecDepth 20000 in
theorem ggX7_passMinute_X4_pass : GoodIn wsX7_passMinute wsX4_pass := goodIn_r _ [28, 18, 20, 22, 24, 29, 7, 8, 9, 30, 31, 32, 14, 33, 34, 35, 36, 37, 38, 39, 40, 41, 42, 43, 44, 45, 46, 47, 48, 49, 50, 51, 52, 53, 54, 55, 56, 57, 58, 59, 60, 61, 62, 63, 64, 65, 66, 67, 68, 69, 70, 71, 72, 16, 73, 74, 75, 76, 77, 113, 114, 115, 116, 117, 99, 100, 101, 102, 103, 104, 105, 106, 107, 108, 109, 110, 111, 112] (by decide +kernel) (by decide +kernel)
set_option maxRecDepth 20000 in
theorem gX7_passMinute_X4_pass : GoodIn wsX7_passMinute (wsV RX7 189 RX4 yX4_pass wsX4_pass) := goodIn_app (goodIn_of _ (by decide +kernel)) ggX7_passMinute_X4_pass
set_option maxRecDepth 20000 in
theorem ggX7_passMinute_X4_putBack : GoodIn wsX7_passMinute wsX4_putBack := goodIn_r _ [81, 16, 19, 20, 23, 24, 113, 114, 115, 116, 117, 99, 100, 101, 102, 103, 104, 105, 106, 107, 108, 109, 110, 111, 112] (by decide +kernel) (by decide +kernel)
set_option maxRecDepth 20000 in
theorem gX7_passMinute_X4_putBack : GoodIn wsX7_passMinute (wsV RX7 331 RX4 yX4_putBack wsX4_putBack) := goodIn_app (goodIn_of _ (by decide +kernel)) ggX7_passMinute_X4_putBack
set_option maxRecDepth 20000 in
theorem ggX7_passMinute_X4_isSeen : GoodIn wsX7_passMinute wsX4_isSeen := goodIn_r _ [85, 20, 30, 31, 32, 14, 33, 34, 35, 36, 37, 55, 56, 57, 113, 114, 115, 116, 117] (by decide +kernel) (by decide +kernel)
set_option maxRecDepth 20000 in
theorem gX7_passMinute_X4_isSeen : GoodIn wsX7_passMinute (wsV RX7 159 RX4 yX4_isSeen wsX4_isSeen) := goodIn_app (goodIn_of _ (by decide +kernel)) ggX7_passMinute_X4_isSeen
theorem dX7_passMinute_0 : decode cX7_passMinute 0 = .ok (.iconst 0, 1) := by decide +kernel
theorem dX7_passMinute_1 : decode cX7_passMinute 1 = .ok (.istore_n 3, 1) := by decide +kernel
theorem dX7_passMinute_2 : decode cX7_passMinute 2 = .ok (.iconst 0, 1) := by decide +kernel
theorem dX7_passMinute_3 : decode cX7_passMinute 3 = .ok (.istore 4, 2) := by decide +kernel
theorem dX7_passMinute_5 : decode cX7_passMinute 5 = .ok (.iload 4, 2) := by decide +kernel
theorem dX7_passMinute_7 : decode cX7_passMinute 7 = .ok (.aload_n 0, 1) := by decide +kernel
theorem dX7_passMinute_8 : decode cX7_passMinute 8 = .ok (.getfield 10, 3) := by decide +kernel
theorem dX7_passMinute_11 : decode cX7_passMinute 11 = .ok (.getfield 122, 3) := by decide +kernel
theorem dX7_passMinute_14 : decode cX7_passMinute 14 = .ok (.if_icmp .ge 49, 3) := by decide +kernel
theorem dX7_passMinute_17 : decode cX7_passMinute 17 = .ok (.aload_n 0, 1) := by decide +kernel
theorem dX7_passMinute_18 : decode cX7_passMinute 18 = .ok (.getfield 31, 3) := by decide +kernel
theorem dX7_passMinute_21 : decode cX7_passMinute 21 = .ok (.iload 4, 2) := by decide +kernel
theorem dX7_passMinute_23 : decode cX7_passMinute 23 = .ok (.invokevirtual 147, 3) := by decide +kernel
theorem dX7_passMinute_26 : decode cX7_passMinute 26 = .ok (.aload_n 0, 1) := by decide +kernel
theorem dX7_passMinute_27 : decode cX7_passMinute 27 = .ok (.getfield 31, 3) := by decide +kernel
theorem dX7_passMinute_30 : decode cX7_passMinute 30 = .ok (.lload_n 1, 1) := by decide +kernel
theorem dX7_passMinute_31 : decode cX7_passMinute 31 = .ok (.invokevirtual 189, 3) := by decide +kernel
theorem dX7_passMinute_34 : decode cX7_passMinute 34 = .ok (.aload_n 0, 1) := by decide +kernel
theorem dX7_passMinute_35 : decode cX7_passMinute 35 = .ok (.getfield 31, 3) := by decide +kernel
theorem dX7_passMinute_38 : decode cX7_passMinute 38 = .ok (.iload 4, 2) := by decide +kernel
theorem dX7_passMinute_40 : decode cX7_passMinute 40 = .ok (.invokevirtual 331, 3) := by decide +kernel
theorem dX7_passMinute_43 : decode cX7_passMinute 43 = .ok (.aload_n 0, 1) := by decide +kernel
theorem dX7_passMinute_44 : decode cX7_passMinute 44 = .ok (.getfield 31, 3) := by decide +kernel
theorem dX7_passMinute_47 : decode cX7_passMinute 47 = .ok (.lload_n 1, 1) := by decide +kernel
theorem dX7_passMinute_48 : decode cX7_passMinute 48 = .ok (.invokevirtual 159, 3) := by decide +kernel
theorem dX7_passMinute_51 : decode cX7_passMinute 51 = .ok (.ifCond .eq 6, 3) := by decide +kernel
theorem dX7_passMinute_54 : decode cX7_passMinute 54 = .ok (.iinc 3 1, 3) := by decide +kernel
theorem dX7_passMinute_57 : decode cX7_passMinute 57 = .ok (.iinc 4 1, 3) := by decide +kernel
theorem dX7_passMinute_60 : decode cX7_passMinute 60 = .ok (.goto (-55), 3) := by decide +kernel
theorem dX7_passMinute_63 : decode cX7_passMinute 63 = .ok (.aload_n 0, 1) := by decide +kernel
theorem dX7_passMinute_64 : decode cX7_passMinute 64 = .ok (.getfield 10, 3) := by decide +kernel
theorem dX7_passMinute_67 : decode cX7_passMinute 67 = .ok (.ldc 170, 2) := by decide +kernel
theorem dX7_passMinute_69 : decode cX7_passMinute 69 = .ok (.aload_n 0, 1) := by decide +kernel
theorem dX7_passMinute_70 : decode cX7_passMinute 70 = .ok (.getfield 10, 3) := by decide +kernel
theorem dX7_passMinute_73 : decode cX7_passMinute 73 = .ok (.getfield 181, 3) := by decide +kernel
theorem dX7_passMinute_76 : decode cX7_passMinute 76 = .ok (.iload_n 3, 1) := by decide +kernel
theorem dX7_passMinute_77 : decode cX7_passMinute 77 = .ok (.iadd, 1) := by decide +kernel
theorem dX7_passMinute_78 : decode cX7_passMinute 78 = .ok (.invokestatic 264, 3) := by decide +kernel
theorem dX7_passMinute_81 : decode cX7_passMinute 81 = .ok (.putfield 181, 3) := by decide +kernel
theorem dX7_passMinute_84 : decode cX7_passMinute 84 = .ok (.aload_n 0, 1) := by decide +kernel
theorem dX7_passMinute_85 : decode cX7_passMinute 85 = .ok (.getfield 10, 3) := by decide +kernel
theorem dX7_passMinute_88 : decode cX7_passMinute 88 = .ok (.ldc 170, 2) := by decide +kernel
theorem dX7_passMinute_90 : decode cX7_passMinute 90 = .ok (.aload_n 0, 1) := by decide +kernel
theorem dX7_passMinute_91 : decode cX7_passMinute 91 = .ok (.getfield 10, 3) := by decide +kernel
theorem dX7_passMinute_94 : decode cX7_passMinute 94 = .ok (.getfield 167, 3) := by decide +kernel
theorem dX7_passMinute_97 : decode cX7_passMinute 97 = .ok (.iconst 1, 1) := by decide +kernel
theorem dX7_passMinute_98 : decode cX7_passMinute 98 = .ok (.iadd, 1) := by decide +kernel
theorem dX7_passMinute_99 : decode cX7_passMinute 99 = .ok (.invokestatic 264, 3) := by decide +kernel
theorem dX7_passMinute_102 : decode cX7_passMinute 102 = .ok (.putfield 167, 3) := by decide +kernel
theorem dX7_passMinute_105 : decode cX7_passMinute 105 = .ok (.iload_n 3, 1) := by decide +kernel
theorem dX7_passMinute_106 : decode cX7_passMinute 106 = .ok (.ireturn, 1) := by decide +kernel
theorem dX7_seenTogether_0 : decode cX7_seenTogether 0 = .ok (.lconst 0, 1) := by decide +kernel
theorem dX7_seenTogether_1 : decode cX7_seenTogether 1 = .ok (.lstore_n 2, 1) := by decide +kernel
theorem dX7_seenTogether_2 : decode cX7_seenTogether 2 = .ok (.iconst 0, 1) := by decide +kernel
theorem dX7_seenTogether_3 : decode cX7_seenTogether 3 = .ok (.istore 4, 2) := by decide +kernel
theorem dX7_seenTogether_5 : decode cX7_seenTogether 5 = .ok (.iload 4, 2) := by decide +kernel
theorem dX7_seenTogether_7 : decode cX7_seenTogether 7 = .ok (.iconst 4, 1) := by decide +kernel
theorem dX7_seenTogether_8 : decode cX7_seenTogether 8 = .ok (.if_icmp .ge 28, 3) := by decide +kernel
theorem dX7_seenTogether_11 : decode cX7_seenTogether 11 = .ok (.iload_n 1, 1) := by decide +kernel
theorem dX7_seenTogether_12 : decode cX7_seenTogether 12 = .ok (.iload 4, 2) := by decide +kernel
theorem dX7_seenTogether_14 : decode cX7_seenTogether 14 = .ok (.ishr, 1) := by decide +kernel
theorem dX7_seenTogether_15 : decode cX7_seenTogether 15 = .ok (.iconst 1, 1) := by decide +kernel
theorem dX7_seenTogether_16 : decode cX7_seenTogether 16 = .ok (.iand, 1) := by decide +kernel
theorem dX7_seenTogether_17 : decode cX7_seenTogether 17 = .ok (.ifCond .eq 13, 3) := by decide +kernel
theorem dX7_seenTogether_20 : decode cX7_seenTogether 20 = .ok (.lload_n 2, 1) := by decide +kernel
theorem dX7_seenTogether_21 : decode cX7_seenTogether 21 = .ok (.aload_n 0, 1) := by decide +kernel
theorem dX7_seenTogether_22 : decode cX7_seenTogether 22 = .ok (.getfield 72, 3) := by decide +kernel
theorem dX7_seenTogether_25 : decode cX7_seenTogether 25 = .ok (.iload 4, 2) := by decide +kernel
theorem dX7_seenTogether_27 : decode cX7_seenTogether 27 = .ok (.laload, 1) := by decide +kernel
theorem dX7_seenTogether_28 : decode cX7_seenTogether 28 = .ok (.lor, 1) := by decide +kernel
theorem dX7_seenTogether_29 : decode cX7_seenTogether 29 = .ok (.lstore_n 2, 1) := by decide +kernel
theorem dX7_seenTogether_30 : decode cX7_seenTogether 30 = .ok (.iinc 4 1, 3) := by decide +kernel
theorem dX7_seenTogether_33 : decode cX7_seenTogether 33 = .ok (.goto (-28), 3) := by decide +kernel
theorem dX7_seenTogether_36 : decode cX7_seenTogether 36 = .ok (.lload_n 2, 1) := by decide +kernel
theorem dX7_seenTogether_37 : decode cX7_seenTogether 37 = .ok (.lreturn, 1) := by decide +kernel
set_option maxRecDepth 20000 in
theorem ggX7_isBather_X7_isWithin : GoodIn wsX7_isBather wsX7_isWithin := goodIn_r _ [6] (by decide +kernel) (by decide +kernel)
set_option maxRecDepth 20000 in
theorem gX7_isBather_X7_isWithin : GoodIn wsX7_isBather (va_wsS RX7 85 yX7_isWithin wsX7_isWithin) := goodIn_app (goodIn_of _ (by decide +kernel)) ggX7_isBather_X7_isWithin
theorem dX7_isBather_0 : decode cX7_isBather 0 = .ok (.iload_n 1, 1) := by decide +kernel
theorem dX7_isBather_1 : decode cX7_isBather 1 = .ok (.iconst 0, 1) := by decide +kernel
theorem dX7_isBather_2 : decode cX7_isBather 2 = .ok (.aload_n 0, 1) := by decide +kernel
theorem dX7_isBather_3 : decode cX7_isBather 3 = .ok (.getfield 10, 3) := by decide +kernel
theorem dX7_isBather_6 : decode cX7_isBather 6 = .ok (.getfield 122, 3) := by decide +kernel
theorem dX7_isBather_9 : decode cX7_isBather 9 = .ok (.iconst 1, 1) := by decide +kernel
theorem dX7_isBather_10 : decode cX7_isBather 10 = .ok (.isub, 1) := by decide +kernel
theorem dX7_isBather_11 : decode cX7_isBather 11 = .ok (.invokestatic 85, 3) := by decide +kernel
theorem dX7_isBather_14 : decode cX7_isBather 14 = .ok (.ireturn, 1) := by decide +kernel
theorem dX7_replace_0 : decode cX7_replace 0 = .ok (.aload_n 0, 1) := by decide +kernel
theorem dX7_replace_1 : decode cX7_replace 1 = .ok (.iload_n 1, 1) := by decide +kernel
theorem dX7_replace_2 : decode cX7_replace 2 = .ok (.iaload, 1) := by decide +kernel
theorem dX7_replace_3 : decode cX7_replace 3 = .ok (.istore_n 3, 1) := by decide +kernel
theorem dX7_replace_4 : decode cX7_replace 4 = .ok (.aload_n 0, 1) := by decide +kernel
theorem dX7_replace_5 : decode cX7_replace 5 = .ok (.iload_n 1, 1) := by decide +kernel
theorem dX7_replace_6 : decode cX7_replace 6 = .ok (.iload_n 2, 1) := by decide +kernel
theorem dX7_replace_7 : decode cX7_replace 7 = .ok (.iastore, 1) := by decide +kernel
theorem dX7_replace_8 : decode cX7_replace 8 = .ok (.iload_n 3, 1) := by decide +kernel
theorem dX7_replace_9 : decode cX7_replace 9 = .ok (.ireturn, 1) := by decide +kernel
theorem dX7_isWithin_0 : decode cX7_isWithin 0 = .ok (.iload_n 0, 1) := by decide +kernel
theorem dX7_isWithin_1 : decode cX7_isWithin 1 = .ok (.iload_n 1, 1) := by decide +kernel
theorem dX7_isWithin_2 : decode cX7_isWithin 2 = .ok (.if_icmp .lt 12, 3) := by decide +kernel
theorem dX7_isWithin_5 : decode cX7_isWithin 5 = .ok (.iload_n 0, 1) := by decide +kernel
theorem dX7_isWithin_6 : decode cX7_isWithin 6 = .ok (.iload_n 2, 1) := by decide +kernel
theorem dX7_isWithin_7 : decode cX7_isWithin 7 = .ok (.if_icmp .gt 7, 3) := by decide +kernel
theorem dX7_isWithin_10 : decode cX7_isWithin 10 = .ok (.iconst 1, 1) := by decide +kernel
theorem dX7_isWithin_11 : decode cX7_isWithin 11 = .ok (.goto 4, 3) := by decide +kernel
theorem dX7_isWithin_14 : decode cX7_isWithin 14 = .ok (.iconst 0, 1) := by decide +kernel
theorem dX7_isWithin_15 : decode cX7_isWithin 15 = .ok (.ireturn, 1) := by decide +kernel
set_option maxRecDepth 20000 in
theorem ggX7_isGuard_X7_isWithin : GoodIn wsX7_isGuard wsX7_isWithin := goodIn_r _ [4] (by decide +kernel) (by decide +kernel)
set_option maxRecDepth 20000 in
theorem gX7_isGuard_X7_isWithin : GoodIn wsX7_isGuard (va_wsS RX7 85 yX7_isWithin wsX7_isWithin) := goodIn_app (goodIn_of _ (by decide +kernel)) ggX7_isGuard_X7_isWithin
theorem dX7_isGuard_0 : decode cX7_isGuard 0 = .ok (.iload_n 0, 1) := by decide +kernel
theorem dX7_isGuard_1 : decode cX7_isGuard 1 = .ok (.iconst 0, 1) := by decide +kernel
theorem dX7_isGuard_2 : decode cX7_isGuard 2 = .ok (.iconst 3, 1) := by decide +kernel
theorem dX7_isGuard_3 : decode cX7_isGuard 3 = .ok (.invokestatic 85, 3) := by decide +kernel
theorem dX7_isGuard_6 : decode cX7_isGuard 6 = .ok (.ireturn, 1) := by decide +kernel
set_option maxRecDepth 20000 in
theorem ggX7_isKind_X7_isWithin : GoodIn wsX7_isKind wsX7_isWithin := goodIn_r _ [4] (by decide +kernel) (by decide +kernel)
set_option maxRecDepth 20000 in
theorem gX7_isKind_X7_isWithin : GoodIn wsX7_isKind (va_wsS RX7 85 yX7_isWithin wsX7_isWithin) := goodIn_app (goodIn_of _ (by decide +kernel)) ggX7_isKind_X7_isWithin
theorem dX7_isKind_0 : decode cX7_isKind 0 = .ok (.iload_n 0, 1) := by decide +kernel
theorem dX7_isKind_1 : decode cX7_isKind 1 = .ok (.iconst 0, 1) := by decide +kernel
theorem dX7_isKind_2 : decode cX7_isKind 2 = .ok (.bipush 6, 2) := by decide +kernel
theorem dX7_isKind_4 : decode cX7_isKind 4 = .ok (.invokestatic 85, 3) := by decide +kernel
theorem dX7_isKind_7 : decode cX7_isKind 7 = .ok (.ireturn, 1) := by decide +kernel
set_option maxRecDepth 20000 in
theorem ggX7_isSide_X7_isWithin : GoodIn wsX7_isSide wsX7_isWithin := goodIn_r _ [4] (by decide +kernel) (by decide +kernel)
set_option maxRecDepth 20000 in
theorem gX7_isSide_X7_isWithin : GoodIn wsX7_isSide (va_wsS RX7 85 yX7_isWithin wsX7_isWithin) := goodIn_app (goodIn_of _ (by decide +kernel)) ggX7_isSide_X7_isWithin
theorem dX7_isSide_0 : decode cX7_isSide 0 = .ok (.iload_n 0, 1) := by decide +kernel
theorem dX7_isSide_1 : decode cX7_isSide 1 = .ok (.iconst 0, 1) := by decide +kernel
theorem dX7_isSide_2 : decode cX7_isSide 2 = .ok (.iconst 1, 1) := by decide +kernel
theorem dX7_isSide_3 : decode cX7_isSide 3 = .ok (.invokestatic 85, 3) := by decide +kernel
theorem dX7_isSide_6 : decode cX7_isSide 6 = .ok (.ireturn, 1) := by decide +kernel
set_option maxRecDepth 20000 in
theorem ggX7_isSpot_X7_isWithin : GoodIn wsX7_isSpot wsX7_isWithin := goodIn_r _ [4] (by decide +kernel) (by decide +kernel)
set_option maxRecDepth 20000 in
theorem gX7_isSpot_X7_isWithin : GoodIn wsX7_isSpot (va_wsS RX7 85 yX7_isWithin wsX7_isWithin) := goodIn_app (goodIn_of _ (by decide +kernel)) ggX7_isSpot_X7_isWithin
theorem dX7_isSpot_0 : decode cX7_isSpot 0 = .ok (.iload_n 0, 1) := by decide +kernel
theorem dX7_isSpot_1 : decode cX7_isSpot 1 = .ok (.iconst 0, 1) := by decide +kernel
theorem dX7_isSpot_2 : decode cX7_isSpot 2 = .ok (.bipush 9, 2) := by decide +kernel
theorem dX7_isSpot_4 : decode cX7_isSpot 4 = .ok (.invokestatic 85, 3) := by decide +kernel
theorem dX7_isSpot_7 : decode cX7_isSpot 7 = .ok (.ireturn, 1) := by decide +kernel
set_option maxRecDepth 20000 in
theorem ggX7_isSheet_X7_isWithin : GoodIn wsX7_isSheet wsX7_isWithin := goodIn_r _ [4] (by decide +kernel) (by decide +kernel)
set_option maxRecDepth 20000 in
theorem gX7_isSheet_X7_isWithin : GoodIn wsX7_isSheet (va_wsS RX7 85 yX7_isWithin wsX7_isWithin) := goodIn_app (goodIn_of _ (by decide +kernel)) ggX7_isSheet_X7_isWithin
theorem dX7_isSheet_0 : decode cX7_isSheet 0 = .ok (.iload_n 0, 1) := by decide +kernel
theorem dX7_isSheet_1 : decode cX7_isSheet 1 = .ok (.iconst 0, 1) := by decide +kernel
theorem dX7_isSheet_2 : decode cX7_isSheet 2 = .ok (.iconst 3, 1) := by decide +kernel
theorem dX7_isSheet_3 : decode cX7_isSheet 3 = .ok (.invokestatic 85, 3) := by decide +kernel
theorem dX7_isSheet_6 : decode cX7_isSheet 6 = .ok (.ireturn, 1) := by decide +kernel
