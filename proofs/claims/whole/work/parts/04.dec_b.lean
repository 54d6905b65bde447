set_option maxRecDepth 20000 in
theorem ggX7_init_X6_init : GoodIn wsX7_init wsX6_init := goodIn_r _ [39, 40, 2, 3, 32, 41, 42, 43, 44, 45, 46, 47, 48, 49, 50, 51, 80, 81, 82, 83, 84, 85, 86, 87, 88, 89, 90, 91, 92, 93] (by decide +kernel) (by decide +kernel)
set_option maxRecDepth 20000 in
theorem gX7_init_X6_init : GoodIn wsX7_init (wsX6_init) := ggX7_init_X6_init
set_option maxRecDepth 20000 in
theorem ggX7_init_X4_init : GoodIn wsX7_init wsX4_init := goodIn_r _ [54, 55, 2, 3, 56, 107, 108, 109, 110, 111] (by decide +kernel) (by decide +kernel)
set_option maxRecDepth 20000 in
theorem gX7_init_X4_init : GoodIn wsX7_init (wsX4_init) := ggX7_init_X4_init
set_option maxRecDepth 20000 in
theorem ggX7_init_X5_init : GoodIn wsX7_init wsX5_init := goodIn_r _ [59, 60, 2, 3, 61, 32, 62, 112, 113] (by decide +kernel) (by decide +kernel)
set_option maxRecDepth 20000 in
theorem gX7_init_X5_init : GoodIn wsX7_init (wsX5_init) := ggX7_init_X5_init
set_option maxRecDepth 20000 in
theorem ggX7_init_X2_init : GoodIn wsX7_init wsX2_init := goodIn_r _ [65, 66, 2, 3, 32, 67, 68, 114, 115, 116, 117, 118, 119] (by decide +kernel) (by decide +kernel)
set_option maxRecDepth 20000 in
theorem gX7_init_X2_init : GoodIn wsX7_init (wsX2_init) := ggX7_init_X2_init
set_option maxRecDepth 20000 in
theorem ggX7_init_X3_init : GoodIn wsX7_init wsX3_init := goodIn_r _ [71, 72, 2, 3, 73, 74, 120, 121, 122] (by decide +kernel) (by decide +kernel)
set_option maxRecDepth 20000 in
theorem gX7_init_X3_init : GoodIn wsX7_init (wsX3_init) := ggX7_init_X3_init
set_option maxRecDepth 20000 in
theorem ggX7_init_X1_init : GoodIn wsX7_init wsX1_init := goodIn_r _ [77, 78, 2, 3, 32, 79, 123, 124, 125] (by decide +kernel) (by decide +kernel)
set_option maxRecDepth 20000 in
theorem gX7_init_X1_init : GoodIn wsX7_init (wsX1_init) := ggX7_init_X1_init
theorem dX7_init_0 : decode cX7_init 0 = .ok (.aload_n 0, 1) := by decide +kernel
theorem dX7_init_1 : decode cX7_init 1 = .ok (.invokespecial 1, 3) := by decide +kernel
theorem dX7_init_4 : decode cX7_init 4 = .ok (.aload_n 0, 1) := by decide +kernel
theorem dX7_init_5 : decode cX7_init 5 = .ok (.new 7, 3) := by decide +kernel
theorem dX7_init_8 : decode cX7_init 8 = .ok (.dup, 1) := by decide +kernel
theorem dX7_init_9 : decode cX7_init 9 = .ok (.invokespecial 9, 3) := by decide +kernel
theorem dX7_init_12 : decode cX7_init 12 = .ok (.putfield 10, 3) := by decide +kernel
theorem dX7_init_15 : decode cX7_init 15 = .ok (.aload_n 0, 1) := by decide +kernel
theorem dX7_init_16 : decode cX7_init 16 = .ok (.new 7, 3) := by decide +kernel
theorem dX7_init_19 : decode cX7_init 19 = .ok (.dup, 1) := by decide +kernel
theorem dX7_init_20 : decode cX7_init 20 = .ok (.invokespecial 9, 3) := by decide +kernel
theorem dX7_init_23 : decode cX7_init 23 = .ok (.putfield 16, 3) := by decide +kernel
theorem dX7_init_26 : decode cX7_init 26 = .ok (.aload_n 0, 1) := by decide +kernel
theorem dX7_init_27 : decode cX7_init 27 = .ok (.new 7, 3) := by decide +kernel
theorem dX7_init_30 : decode cX7_init 30 = .ok (.dup, 1) := by decide +kernel
theorem dX7_init_31 : decode cX7_init 31 = .ok (.invokespecial 9, 3) := by decide +kernel
theorem dX7_init_34 : decode cX7_init 34 = .ok (.putfield 19, 3) := by decide +kernel
theorem dX7_init_37 : decode cX7_init 37 = .ok (.aload_n 0, 1) := by decide +kernel
theorem dX7_init_38 : decode cX7_init 38 = .ok (.iconst 0, 1) := by decide +kernel
theorem dX7_init_39 : decode cX7_init 39 = .ok (.putfield 22, 3) := by decide +kernel
theorem dX7_init_42 : decode cX7_init 42 = .ok (.aload_n 0, 1) := by decide +kernel
theorem dX7_init_43 : decode cX7_init 43 = .ok (.new 26, 3) := by decide +kernel
theorem dX7_init_46 : decode cX7_init 46 = .ok (.dup, 1) := by decide +kernel
theorem dX7_init_47 : decode cX7_init 47 = .ok (.aload_n 0, 1) := by decide +kernel
theorem dX7_init_48 : decode cX7_init 48 = .ok (.getfield 10, 3) := by decide +kernel
theorem dX7_init_51 : decode cX7_init 51 = .ok (.invokespecial 28, 3) := by decide +kernel
theorem dX7_init_54 : decode cX7_init 54 = .ok (.putfield 31, 3) := by decide +kernel
theorem dX7_init_57 : decode cX7_init 57 = .ok (.aload_n 0, 1) := by decide +kernel
theorem dX7_init_58 : decode cX7_init 58 = .ok (.new 26, 3) := by decide +kernel
theorem dX7_init_61 : decode cX7_init 61 = .ok (.dup, 1) := by decide +kernel
theorem dX7_init_62 : decode cX7_init 62 = .ok (.aload_n 0, 1) := by decide +kernel
theorem dX7_init_63 : decode cX7_init 63 = .ok (.getfield 10, 3) := by decide +kernel
theorem dX7_init_66 : decode cX7_init 66 = .ok (.invokespecial 28, 3) := by decide +kernel
theorem dX7_init_69 : decode cX7_init 69 = .ok (.putfield 35, 3) := by decide +kernel
theorem dX7_init_72 : decode cX7_init 72 = .ok (.aload_n 0, 1) := by decide +kernel
theorem dX7_init_73 : decode cX7_init 73 = .ok (.new 38, 3) := by decide +kernel
theorem dX7_init_76 : decode cX7_init 76 = .ok (.dup, 1) := by decide +kernel
theorem dX7_init_77 : decode cX7_init 77 = .ok (.aload_n 0, 1) := by decide +kernel
theorem dX7_init_78 : decode cX7_init 78 = .ok (.getfield 10, 3) := by decide +kernel
theorem dX7_init_81 : decode cX7_init 81 = .ok (.invokespecial 40, 3) := by decide +kernel
theorem dX7_init_84 : decode cX7_init 84 = .ok (.putfield 41, 3) := by decide +kernel
theorem dX7_init_87 : decode cX7_init 87 = .ok (.aload_n 0, 1) := by decide +kernel
theorem dX7_init_88 : decode cX7_init 88 = .ok (.new 45, 3) := by decide +kernel
theorem dX7_init_91 : decode cX7_init 91 = .ok (.dup, 1) := by decide +kernel
theorem dX7_init_92 : decode cX7_init 92 = .ok (.invokespecial 47, 3) := by decide +kernel
theorem dX7_init_95 : decode cX7_init 95 = .ok (.putfield 48, 3) := by decide +kernel
theorem dX7_init_98 : decode cX7_init 98 = .ok (.aload_n 0, 1) := by decide +kernel
theorem dX7_init_99 : decode cX7_init 99 = .ok (.new 52, 3) := by decide +kernel
theorem dX7_init_102 : decode cX7_init 102 = .ok (.dup, 1) := by decide +kernel
theorem dX7_init_103 : decode cX7_init 103 = .ok (.aload_n 0, 1) := by decide +kernel
theorem dX7_init_104 : decode cX7_init 104 = .ok (.getfield 48, 3) := by decide +kernel
theorem dX7_init_107 : decode cX7_init 107 = .ok (.aload_n 0, 1) := by decide +kernel
theorem dX7_init_108 : decode cX7_init 108 = .ok (.getfield 19, 3) := by decide +kernel
theorem dX7_init_111 : decode cX7_init 111 = .ok (.invokespecial 54, 3) := by decide +kernel
theorem dX7_init_114 : decode cX7_init 114 = .ok (.putfield 57, 3) := by decide +kernel
theorem dX7_init_117 : decode cX7_init 117 = .ok (.aload_n 0, 1) := by decide +kernel
theorem dX7_init_118 : decode cX7_init 118 = .ok (.iconst 4, 1) := by decide +kernel
theorem dX7_init_119 : decode cX7_init 119 = .ok (.anewarray 61, 3) := by decide +kernel
theorem dX7_init_122 : decode cX7_init 122 = .ok (.putfield 63, 3) := by decide +kernel
theorem dX7_init_125 : decode cX7_init 125 = .ok (.iconst 0, 1) := by decide +kernel
theorem dX7_init_126 : decode cX7_init 126 = .ok (.istore_n 1, 1) := by decide +kernel
theorem dX7_init_127 : decode cX7_init 127 = .ok (.iload_n 1, 1) := by decide +kernel
theorem dX7_init_128 : decode cX7_init 128 = .ok (.iconst 4, 1) := by decide +kernel
theorem dX7_init_129 : decode cX7_init 129 = .ok (.if_icmp .ge 22, 3) := by decide +kernel
theorem dX7_init_132 : decode cX7_init 132 = .ok (.aload_n 0, 1) := by decide +kernel
theorem dX7_init_133 : decode cX7_init 133 = .ok (.getfield 63, 3) := by decide +kernel
theorem dX7_init_136 : decode cX7_init 136 = .ok (.iload_n 1, 1) := by decide +kernel
theorem dX7_init_137 : decode cX7_init 137 = .ok (.new 61, 3) := by decide +kernel
theorem dX7_init_140 : decode cX7_init 140 = .ok (.dup, 1) := by decide +kernel
theorem dX7_init_141 : decode cX7_init 141 = .ok (.invokespecial 67, 3) := by decide +kernel
theorem dX7_init_144 : decode cX7_init 144 = .ok (.aastore, 1) := by decide +kernel
theorem dX7_init_145 : decode cX7_init 145 = .ok (.iinc 1 1, 3) := by decide +kernel
theorem dX7_init_148 : decode cX7_init 148 = .ok (.goto (-21), 3) := by decide +kernel
theorem dX7_init_151 : decode cX7_init 151 = .ok (.aload_n 0, 1) := by decide +kernel
theorem dX7_init_152 : decode cX7_init 152 = .ok (.bipush 7, 2) := by decide +kernel
theorem dX7_init_154 : decode cX7_init 154 = .ok (.newarray .int, 2) := by decide +kernel
theorem dX7_init_156 : decode cX7_init 156 = .ok (.putfield 68, 3) := by decide +kernel
theorem dX7_init_159 : decode cX7_init 159 = .ok (.aload_n 0, 1) := by decide +kernel
theorem dX7_init_160 : decode cX7_init 160 = .ok (.iconst 4, 1) := by decide +kernel
theorem dX7_init_161 : decode cX7_init 161 = .ok (.newarray .long, 2) := by decide +kernel
theorem dX7_init_163 : decode cX7_init 163 = .ok (.putfield 72, 3) := by decide +kernel
theorem dX7_init_166 : decode cX7_init 166 = .ok (.aload_n 0, 1) := by decide +kernel
theorem dX7_init_167 : decode cX7_init 167 = .ok (.bipush 41, 2) := by decide +kernel
theorem dX7_init_169 : decode cX7_init 169 = .ok (.newarray .long, 2) := by decide +kernel
theorem dX7_init_171 : decode cX7_init 171 = .ok (.putfield 76, 3) := by decide +kernel
theorem dX7_init_174 : decode cX7_init 174 = .ok (.return_, 1) := by decide +kernel
set_option maxRecDepth 20000 in
theorem ggX7_fill_X0_isCell : GoodIn wsX7_fill wsX0_isCell := goodIn_r _ [7] (by decide +kernel) (by decide +kernel)
set_option maxRecDepth 20000 in
theorem gX7_fill_X0_isCell : GoodIn wsX7_fill (va_wsS RX7 79 yX0_isCell wsX0_isCell) := goodIn_app (goodIn_of _ (by decide +kernel)) ggX7_fill_X0_isCell
set_option maxRecDepth 20000 in
theorem ggX7_fill_X7_isWithin : GoodIn wsX7_fill wsX7_isWithin := goodIn_r _ [11] (by decide +kernel) (by decide +kernel)
set_option maxRecDepth 20000 in
theorem gX7_fill_X7_isWithin : GoodIn wsX7_fill (va_wsS RX7 85 yX7_isWithin wsX7_isWithin) := goodIn_app (goodIn_of _ (by decide +kernel)) ggX7_fill_X7_isWithin
set_option maxRecDepth 20000 in
theorem ggX7_fill_X7_finding : GoodIn wsX7_fill wsX7_finding := goodIn_r _ [15, 16, 17, 21, 22, 23, 24, 25, 26, 27, 28, 29, 30, 31, 32, 33] (by decide +kernel) (by decide +kernel)
set_option maxRecDepth 20000 in
theorem gX7_fill_X7_finding : GoodIn wsX7_fill (wsV RX7 89 RX7 yX7_finding wsX7_finding) := goodIn_app (goodIn_of _ (by decide +kernel)) ggX7_fill_X7_finding
set_option maxRecDepth 20000 in
theorem ggX7_fill_X7_replace : GoodIn wsX7_fill wsX7_replace := goodIn_r _ [20] (by decide +kernel) (by decide +kernel)
set_option maxRecDepth 20000 in
theorem gX7_fill_X7_replace : GoodIn wsX7_fill (va_wsS RX7 99 yX7_replace wsX7_replace) := goodIn_app (goodIn_of _ (by decide +kernel)) ggX7_fill_X7_replace
theorem dX7_fill_0 : decode cX7_fill 0 = .ok (.iload_n 1, 1) := by decide +kernel
theorem dX7_fill_1 : decode cX7_fill 1 = .ok (.invokestatic 79, 3) := by decide +kernel
theorem dX7_fill_4 : decode cX7_fill 4 = .ok (.ifCond .eq 12, 3) := by decide +kernel
theorem dX7_fill_7 : decode cX7_fill 7 = .ok (.iload_n 2, 1) := by decide +kernel
theorem dX7_fill_8 : decode cX7_fill 8 = .ok (.iconst 0, 1) := by decide +kernel
theorem dX7_fill_9 : decode cX7_fill 9 = .ok (.iconst 1, 1) := by decide +kernel
theorem dX7_fill_10 : decode cX7_fill 10 = .ok (.invokestatic 85, 3) := by decide +kernel
theorem dX7_fill_13 : decode cX7_fill 13 = .ok (.ifCond .ne 9, 3) := by decide +kernel
theorem dX7_fill_16 : decode cX7_fill 16 = .ok (.aload_n 0, 1) := by decide +kernel
theorem dX7_fill_17 : decode cX7_fill 17 = .ok (.iconst 0, 1) := by decide +kernel
theorem dX7_fill_18 : decode cX7_fill 18 = .ok (.invokevirtual 89, 3) := by decide +kernel
theorem dX7_fill_21 : decode cX7_fill 21 = .ok (.ireturn, 1) := by decide +kernel
theorem dX7_fill_22 : decode cX7_fill 22 = .ok (.iload_n 3, 1) := by decide +kernel
theorem dX7_fill_23 : decode cX7_fill 23 = .ok (.iconst 0, 1) := by decide +kernel
theorem dX7_fill_24 : decode cX7_fill 24 = .ok (.iload_n 2, 1) := by decide +kernel
theorem dX7_fill_25 : decode cX7_fill 25 = .ok (.ifCond .ne 8, 3) := by decide +kernel
theorem dX7_fill_28 : decode cX7_fill 28 = .ok (.bipush 9, 2) := by decide +kernel
theorem dX7_fill_30 : decode cX7_fill 30 = .ok (.goto 4, 3) := by decide +kernel
theorem dX7_fill_33 : decode cX7_fill 33 = .ok (.iconst 4, 1) := by decide +kernel
theorem dX7_fill_34 : decode cX7_fill 34 = .ok (.invokestatic 85, 3) := by decide +kernel
theorem dX7_fill_37 : decode cX7_fill 37 = .ok (.ifCond .ne 9, 3) := by decide +kernel
theorem dX7_fill_40 : decode cX7_fill 40 = .ok (.aload_n 0, 1) := by decide +kernel
theorem dX7_fill_41 : decode cX7_fill 41 = .ok (.iconst 0, 1) := by decide +kernel
theorem dX7_fill_42 : decode cX7_fill 42 = .ok (.invokevirtual 89, 3) := by decide +kernel
theorem dX7_fill_45 : decode cX7_fill 45 = .ok (.ireturn, 1) := by decide +kernel
theorem dX7_fill_46 : decode cX7_fill 46 = .ok (.iload_n 2, 1) := by decide +kernel
theorem dX7_fill_47 : decode cX7_fill 47 = .ok (.ifCond .ne 13, 3) := by decide +kernel
theorem dX7_fill_50 : decode cX7_fill 50 = .ok (.aload_n 0, 1) := by decide +kernel
theorem dX7_fill_51 : decode cX7_fill 51 = .ok (.getfield 10, 3) := by decide +kernel
theorem dX7_fill_54 : decode cX7_fill 54 = .ok (.getfield 93, 3) := by decide +kernel
theorem dX7_fill_57 : decode cX7_fill 57 = .ok (.goto 10, 3) := by decide +kernel
theorem dX7_fill_60 : decode cX7_fill 60 = .ok (.aload_n 0, 1) := by decide +kernel
theorem dX7_fill_61 : decode cX7_fill 61 = .ok (.getfield 10, 3) := by decide +kernel
theorem dX7_fill_64 : decode cX7_fill 64 = .ok (.getfield 96, 3) := by decide +kernel
theorem dX7_fill_67 : decode cX7_fill 67 = .ok (.iload_n 1, 1) := by decide +kernel
theorem dX7_fill_68 : decode cX7_fill 68 = .ok (.iload_n 3, 1) := by decide +kernel
theorem dX7_fill_69 : decode cX7_fill 69 = .ok (.invokestatic 99, 3) := by decide +kernel
theorem dX7_fill_72 : decode cX7_fill 72 = .ok (.ireturn, 1) := by decide +kernel
set_option maxRecDepth 20000 in
theorem ggX7_cell_X0_isCell : GoodIn wsX7_cell wsX0_isCell := goodIn_r _ [7] (by decide +kernel) (by decide +kernel)
set_option maxRecDepth 20000 in
theorem gX7_cell_X0_isCell : GoodIn wsX7_cell (va_wsS RX7 79 yX0_isCell wsX0_isCell) := goodIn_app (goodIn_of _ (by decide +kernel)) ggX7_cell_X0_isCell
set_option maxRecDepth 20000 in
theorem ggX7_cell_X7_finding : GoodIn wsX7_cell wsX7_finding := goodIn_r _ [12, 13, 14, 53, 54, 55, 56, 57, 58, 59, 60, 61, 62, 63, 64, 65] (by decide +kernel) (by decide +kernel)
set_option maxRecDepth 20000 in
theorem gX7_cell_X7_finding : GoodIn wsX7_cell (wsV RX7 89 RX7 yX7_finding wsX7_finding) := goodIn_app (goodIn_of _ (by decide +kernel)) ggX7_cell_X7_finding
set_option maxRecDepth 20000 in
theorem ggX7_cell_X6_guardsWhoSee : GoodIn wsX7_cell wsX6_guardsWhoSee := goodIn_r _ [19, 20, 21, 22, 23, 24, 6, 25, 26, 27, 28, 29, 30, 31, 32, 33, 34, 35, 66, 67, 68, 69, 70, 71, 72, 73, 74, 75, 76, 77, 78, 79] (by decide +kernel) (by decide +kernel)
set_option maxRecDepth 20000 in
theorem gX7_cell_X6_guardsWhoSee : GoodIn wsX7_cell (wsV RX7 103 RX6 yX6_guardsWhoSee wsX6_guardsWhoSee) := goodIn_app (goodIn_of _ (by decide +kernel)) ggX7_cell_X6_guardsWhoSee
set_option maxRecDepth 20000 in
theorem ggX7_cell_X6_howManyAt : GoodIn wsX7_cell wsX6_howManyAt := goodIn_r _ [39, 40, 41, 42, 18, 43, 44, 45, 46, 47, 48, 49, 50, 51, 52, 66, 67, 68, 69, 70, 71, 72, 73, 74, 75, 76, 77, 78, 79] (by decide +kernel) (by decide +kernel)
set_option maxRecDepth 20000 in
theorem gX7_cell_X6_howManyAt : GoodIn wsX7_cell (wsV RX7 106 RX6 yX6_howManyAt wsX6_howManyAt) := goodIn_app (goodIn_of _ (by decide +kernel)) ggX7_cell_X6_howManyAt
theorem dX7_cell_0 : decode cX7_cell 0 = .ok (.iload_n 1, 1) := by decide +kernel
theorem dX7_cell_1 : decode cX7_cell 1 = .ok (.invokestatic 79, 3) := by decide +kernel
theorem dX7_cell_4 : decode cX7_cell 4 = .ok (.ifCond .ne 9, 3) := by decide +kernel
theorem dX7_cell_7 : decode cX7_cell 7 = .ok (.aload_n 0, 1) := by decide +kernel
theorem dX7_cell_8 : decode cX7_cell 8 = .ok (.iconst 0, 1) := by decide +kernel
theorem dX7_cell_9 : decode cX7_cell 9 = .ok (.invokevirtual 89, 3) := by decide +kernel
theorem dX7_cell_12 : decode cX7_cell 12 = .ok (.ireturn, 1) := by decide +kernel
theorem dX7_cell_13 : decode cX7_cell 13 = .ok (.iload_n 2, 1) := by decide +kernel
theorem dX7_cell_14 : decode cX7_cell 14 = .ok (.tableswitch 68 0 3 #[30, 40, 50, 59], 30) := by decide +kernel
theorem dX7_cell_44 : decode cX7_cell 44 = .ok (.aload_n 0, 1) := by decide +kernel
theorem dX7_cell_45 : decode cX7_cell 45 = .ok (.getfield 10, 3) := by decide +kernel
theorem dX7_cell_48 : decode cX7_cell 48 = .ok (.getfield 93, 3) := by decide +kernel
theorem dX7_cell_51 : decode cX7_cell 51 = .ok (.iload_n 1, 1) := by decide +kernel
theorem dX7_cell_52 : decode cX7_cell 52 = .ok (.iaload, 1) := by decide +kernel
theorem dX7_cell_53 : decode cX7_cell 53 = .ok (.ireturn, 1) := by decide +kernel
theorem dX7_cell_54 : decode cX7_cell 54 = .ok (.aload_n 0, 1) := by decide +kernel
theorem dX7_cell_55 : decode cX7_cell 55 = .ok (.getfield 10, 3) := by decide +kernel
theorem dX7_cell_58 : decode cX7_cell 58 = .ok (.getfield 96, 3) := by decide +kernel
theorem dX7_cell_61 : decode cX7_cell 61 = .ok (.iload_n 1, 1) := by decide +kernel
theorem dX7_cell_62 : decode cX7_cell 62 = .ok (.iaload, 1) := by decide +kernel
theorem dX7_cell_63 : decode cX7_cell 63 = .ok (.ireturn, 1) := by decide +kernel
theorem dX7_cell_64 : decode cX7_cell 64 = .ok (.aload_n 0, 1) := by decide +kernel
theorem dX7_cell_65 : decode cX7_cell 65 = .ok (.getfield 10, 3) := by decide +kernel
theorem dX7_cell_68 : decode cX7_cell 68 = .ok (.iload_n 1, 1) := by decide +kernel
theorem dX7_cell_69 : decode cX7_cell 69 = .ok (.invokevirtual 103, 3) := by decide +kernel
theorem dX7_cell_72 : decode cX7_cell 72 = .ok (.ireturn, 1) := by decide +kernel
theorem dX7_cell_73 : decode cX7_cell 73 = .ok (.aload_n 0, 1) := by decide +kernel
theorem dX7_cell_74 : decode cX7_cell 74 = .ok (.getfield 10, 3) := by decide +kernel
theorem dX7_cell_77 : decode cX7_cell 77 = .ok (.iload_n 1, 1) := by decide +kernel
theorem dX7_cell_78 : decode cX7_cell 78 = .ok (.invokevirtual 106, 3) := by decide +kernel
theorem dX7_cell_81 : decode cX7_cell 81 = .ok (.ireturn, 1) := by decide +kernel
theorem dX7_cell_82 : decode cX7_cell 82 = .ok (.aload_n 0, 1) := by decide +kernel
theorem dX7_cell_83 : decode cX7_cell 83 = .ok (.iconst 0, 1) := by decide +kernel
theorem dX7_cell_84 : decode cX7_cell 84 = .ok (.invokevirtual 89, 3) := by decide +kernel
theorem dX7_cell_87 : decode cX7_cell 87 = .ok (.ireturn, 1) := by decide +kernel
set_option maxRecDepth 20000 in
theorem ggX7_guard_X7_isGuard : GoodIn wsX7_guard wsX7_isGuard := goodIn_r _ [6, 7, 8, 5, 9] (by decide +kernel) (by decide +kernel)
set_option maxRecDepth 20000 in
theorem gX7_guard_X7_isGuard : GoodIn wsX7_guard (va_wsS RX7 109 yX7_isGuard wsX7_isGuard) := goodIn_app (goodIn_of _ (by decide +kernel)) ggX7_guard_X7_isGuard
set_option maxRecDepth 20000 in
theorem ggX7_guard_X7_isWithin : GoodIn wsX7_guard wsX7_isWithin := goodIn_r _ [9] (by decide +kernel) (by decide +kernel)
set_option maxRecDepth 20000 in
theorem gX7_guard_X7_isWithin : GoodIn wsX7_guard (va_wsS RX7 85 yX7_isWithin wsX7_isWithin) := goodIn_app (goodIn_of _ (by decide +kernel)) ggX7_guard_X7_isWithin
set_option maxRecDepth 20000 in
theorem ggX7_guard_X7_finding : GoodIn wsX7_guard wsX7_finding := goodIn_r _ [13, 14, 15, 19, 20, 21, 22, 23, 24, 25, 26, 27, 28, 29, 30, 31] (by decide +kernel) (by decide +kernel)
set_option maxRecDepth 20000 in
theorem gX7_guard_X7_finding : GoodIn wsX7_guard (wsV RX7 89 RX7 yX7_finding wsX7_finding) := goodIn_app (goodIn_of _ (by decide +kernel)) ggX7_guard_X7_finding
set_option maxRecDepth 20000 in
theorem ggX7_guard_X7_replace : GoodIn wsX7_guard wsX7_replace := goodIn_r _ [18] (by decide +kernel) (by decide +kernel)
set_option maxRecDepth 20000 in
theorem gX7_guard_X7_replace : GoodIn wsX7_guard (va_wsS RX7 99 yX7_replace wsX7_replace) := goodIn_app (goodIn_of _ (by decide +kernel)) ggX7_guard_X7_replace
theorem dX7_guard_0 : decode cX7_guard 0 = .ok (.iload_n 1, 1) := by decide +kernel
theorem dX7_guard_1 : decode cX7_guard 1 = .ok (.invokestatic 109, 3) := by decide +kernel
theorem dX7_guard_4 : decode cX7_guard 4 = .ok (.ifCond .eq 13, 3) := by decide +kernel
theorem dX7_guard_7 : decode cX7_guard 7 = .ok (.iload_n 2, 1) := by decide +kernel
theorem dX7_guard_8 : decode cX7_guard 8 = .ok (.iconst (-1), 1) := by decide +kernel
theorem dX7_guard_9 : decode cX7_guard 9 = .ok (.bipush 47, 2) := by decide +kernel
theorem dX7_guard_11 : decode cX7_guard 11 = .ok (.invokestatic 85, 3) := by decide +kernel
theorem dX7_guard_14 : decode cX7_guard 14 = .ok (.ifCond .ne 9, 3) := by decide +kernel
theorem dX7_guard_17 : decode cX7_guard 17 = .ok (.aload_n 0, 1) := by decide +kernel
theorem dX7_guard_18 : decode cX7_guard 18 = .ok (.iconst 0, 1) := by decide +kernel
theorem dX7_guard_19 : decode cX7_guard 19 = .ok (.invokevirtual 89, 3) := by decide +kernel
theorem dX7_guard_22 : decode cX7_guard 22 = .ok (.ireturn, 1) := by decide +kernel
theorem dX7_guard_23 : decode cX7_guard 23 = .ok (.aload_n 0, 1) := by decide +kernel
theorem dX7_guard_24 : decode cX7_guard 24 = .ok (.getfield 10, 3) := by decide +kernel
theorem dX7_guard_27 : decode cX7_guard 27 = .ok (.getfield 112, 3) := by decide +kernel
theorem dX7_guard_30 : decode cX7_guard 30 = .ok (.iload_n 1, 1) := by decide +kernel
theorem dX7_guard_31 : decode cX7_guard 31 = .ok (.iload_n 2, 1) := by decide +kernel
theorem dX7_guard_32 : decode cX7_guard 32 = .ok (.invokestatic 99, 3) := by decide +kernel
theorem dX7_guard_35 : decode cX7_guard 35 = .ok (.ireturn, 1) := by decide +kernel
set_option maxRecDepth 20000 in
theorem ggX7_sight_X7_isWithin : GoodIn wsX7_sight wsX7_isWithin := goodIn_r _ [6] (by decide +kernel) (by decide +kernel)
set_option maxRecDepth 20000 in
theorem gX7_sight_X7_isWithin : GoodIn wsX7_sight (va_wsS RX7 85 yX7_isWithin wsX7_isWithin) := goodIn_app (goodIn_of _ (by decide +kernel)) ggX7_sight_X7_isWithin
set_option maxRecDepth 20000 in
theorem ggX7_sight_X7_finding : GoodIn wsX7_sight wsX7_finding := goodIn_r _ [10, 11, 12, 13, 14, 15, 16, 17, 18, 19, 20, 21, 22, 23, 24, 25] (by decide +kernel) (by decide +kernel)
set_option maxRecDepth 20000 in
theorem gX7_sight_X7_finding : GoodIn wsX7_sight (wsV RX7 89 RX7 yX7_finding wsX7_finding) := goodIn_app (goodIn_of _ (by decide +kernel)) ggX7_sight_X7_finding
theorem dX7_sight_0 : decode cX7_sight 0 = .ok (.iload_n 1, 1) := by decide +kernel
theorem dX7_sight_1 : decode cX7_sight 1 = .ok (.iconst 0, 1) := by decide +kernel
theorem dX7_sight_2 : decode cX7_sight 2 = .ok (.bipush 12, 2) := by decide +kernel
theorem dX7_sight_4 : decode cX7_sight 4 = .ok (.invokestatic 85, 3) := by decide +kernel
theorem dX7_sight_7 : decode cX7_sight 7 = .ok (.ifCond .ne 9, 3) := by decide +kernel
theorem dX7_sight_10 : decode cX7_sight 10 = .ok (.aload_n 0, 1) := by decide +kernel
theorem dX7_sight_11 : decode cX7_sight 11 = .ok (.iconst 0, 1) := by decide +kernel
theorem dX7_sight_12 : decode cX7_sight 12 = .ok (.invokevirtual 89, 3) := by decide +kernel
theorem dX7_sight_15 : decode cX7_sight 15 = .ok (.ireturn, 1) := by decide +kernel
theorem dX7_sight_16 : decode cX7_sight 16 = .ok (.aload_n 0, 1) := by decide +kernel
theorem dX7_sight_17 : decode cX7_sight 17 = .ok (.getfield 10, 3) := by decide +kernel
theorem dX7_sight_20 : decode cX7_sight 20 = .ok (.getfield 115, 3) := by decide +kernel
theorem dX7_sight_23 : decode cX7_sight 23 = .ok (.istore_n 2, 1) := by decide +kernel
theorem dX7_sight_24 : decode cX7_sight 24 = .ok (.aload_n 0, 1) := by decide +kernel
theorem dX7_sight_25 : decode cX7_sight 25 = .ok (.getfield 10, 3) := by decide +kernel
theorem dX7_sight_28 : decode cX7_sight 28 = .ok (.iload_n 1, 1) := by decide +kernel
theorem dX7_sight_29 : decode cX7_sight 29 = .ok (.putfield 115, 3) := by decide +kernel
theorem dX7_sight_32 : decode cX7_sight 32 = .ok (.iload_n 2, 1) := by decide +kernel
theorem dX7_sight_33 : decode cX7_sight 33 = .ok (.ireturn, 1) := by decide +kernel
set_option maxRecDepth 20000 in
theorem ggX7_bather_X7_isKind : GoodIn wsX7_bather wsX7_isKind := goodIn_r _ [6, 7, 8, 5, 9] (by decide +kernel) (by decide +kernel)
set_option maxRecDepth 20000 in
theorem gX7_bather_X7_isKind : GoodIn wsX7_bather (va_wsS RX7 119 yX7_isKind wsX7_isKind) := goodIn_app (goodIn_of _ (by decide +kernel)) ggX7_bather_X7_isKind
set_option maxRecDepth 20000 in
theorem ggX7_bather_X0_isCell : GoodIn wsX7_bather wsX0_isCell := goodIn_r _ [13] (by decide +kernel) (by decide +kernel)
set_option maxRecDepth 20000 in
theorem gX7_bather_X0_isCell : GoodIn wsX7_bather (va_wsS RX7 79 yX0_isCell wsX0_isCell) := goodIn_app (goodIn_of _ (by decide +kernel)) ggX7_bather_X0_isCell
set_option maxRecDepth 20000 in
theorem ggX7_bather_X7_finding : GoodIn wsX7_bather wsX7_finding := goodIn_r _ [17, 18, 19, 31, 32, 33, 34, 35, 36, 37, 38, 39, 40, 41, 42, 43] (by decide +kernel) (by decide +kernel)
set_option maxRecDepth 20000 in
theorem gX7_bather_X7_finding : GoodIn wsX7_bather (wsV RX7 89 RX7 yX7_finding wsX7_finding) := goodIn_app (goodIn_of _ (by decide +kernel)) ggX7_bather_X7_finding
set_option maxRecDepth 20000 in
theorem ggX7_bather_X6_admit : GoodIn wsX7_bather wsX6_admit := goodIn_r _ [24, 25, 26, 27, 28, 29, 30, 44, 45, 46, 47, 48, 49, 50, 51, 52, 53, 54, 55, 56, 57] (by decide +kernel) (by decide +kernel)
set_option maxRecDepth 20000 in
theorem gX7_bather_X6_admit : GoodIn wsX7_bather (wsV RX7 125 RX6 yX6_admit wsX6_admit) := goodIn_app (goodIn_of _ (by decide +kernel)) ggX7_bather_X6_admit
theorem dX7_bather_0 : decode cX7_bather 0 = .ok (.iload_n 1, 1) := by decide +kernel
theorem dX7_bather_1 : decode cX7_bather 1 = .ok (.invokestatic 119, 3) := by decide +kernel
theorem dX7_bather_4 : decode cX7_bather 4 = .ok (.ifCond .eq 10, 3) := by decide +kernel
theorem dX7_bather_7 : decode cX7_bather 7 = .ok (.iload_n 2, 1) := by decide +kernel
theorem dX7_bather_8 : decode cX7_bather 8 = .ok (.invokestatic 79, 3) := by decide +kernel
theorem dX7_bather_11 : decode cX7_bather 11 = .ok (.ifCond .ne 9, 3) := by decide +kernel
theorem dX7_bather_14 : decode cX7_bather 14 = .ok (.aload_n 0, 1) := by decide +kernel
theorem dX7_bather_15 : decode cX7_bather 15 = .ok (.iconst 0, 1) := by decide +kernel
theorem dX7_bather_16 : decode cX7_bather 16 = .ok (.invokevirtual 89, 3) := by decide +kernel
theorem dX7_bather_19 : decode cX7_bather 19 = .ok (.ireturn, 1) := by decide +kernel
theorem dX7_bather_20 : decode cX7_bather 20 = .ok (.aload_n 0, 1) := by decide +kernel
theorem dX7_bather_21 : decode cX7_bather 21 = .ok (.getfield 10, 3) := by decide +kernel
theorem dX7_bather_24 : decode cX7_bather 24 = .ok (.getfield 122, 3) := by decide +kernel
theorem dX7_bather_27 : decode cX7_bather 27 = .ok (.bipush 8, 2) := by decide +kernel
theorem dX7_bather_29 : decode cX7_bather 29 = .ok (.if_icmp .lt 9, 3) := by decide +kernel
theorem dX7_bather_32 : decode cX7_bather 32 = .ok (.aload_n 0, 1) := by decide +kernel
theorem dX7_bather_33 : decode cX7_bather 33 = .ok (.iconst 1, 1) := by decide +kernel
theorem dX7_bather_34 : decode cX7_bather 34 = .ok (.invokevirtual 89, 3) := by decide +kernel
theorem dX7_bather_37 : decode cX7_bather 37 = .ok (.ireturn, 1) := by decide +kernel
theorem dX7_bather_38 : decode cX7_bather 38 = .ok (.aload_n 0, 1) := by decide +kernel
theorem dX7_bather_39 : decode cX7_bather 39 = .ok (.getfield 10, 3) := by decide +kernel
theorem dX7_bather_42 : decode cX7_bather 42 = .ok (.iload_n 1, 1) := by decide +kernel
theorem dX7_bather_43 : decode cX7_bather 43 = .ok (.iload_n 2, 1) := by decide +kernel
theorem dX7_bather_44 : decode cX7_bather 44 = .ok (.invokevirtual 125, 3) := by decide +kernel
theorem dX7_bather_47 : decode cX7_bather 47 = .ok (.ireturn, 1) := by decide +kernel
set_option maxRecDepth 20000 in
theorem ggX7_of_X7_isBather : GoodIn wsX7_of wsX7_isBather := goodIn_r _ [13, 1, 14, 15, 16, 12, 17, 108, 109, 110, 111, 112, 113, 114, 115, 116, 117, 118, 119, 120, 121, 122, 123, 124, 125, 126, 127, 128, 129, 130, 131, 132, 133, 134] (by decide +kernel) (by decide +kernel)
set_option maxRecDepth 20000 in
theorem gX7_of_X7_isBather : GoodIn wsX7_of (wsV RX7 129 RX7 yX7_isBather wsX7_isBather) := goodIn_app (goodIn_of _ (by decide +kernel)) ggX7_of_X7_isBather
set_option maxRecDepth 20000 in
theorem ggX7_of_X7_finding : GoodIn wsX7_of wsX7_finding := goodIn_r _ [21, 22, 23, 108, 109, 110, 111, 112, 113, 114, 115, 116, 117, 118, 119, 120] (by decide +kernel) (by decide +kernel)
set_option maxRecDepth 20000 in
theorem gX7_of_X7_finding : GoodIn wsX7_of (wsV RX7 89 RX7 yX7_finding wsX7_finding) := goodIn_app (goodIn_of _ (by decide +kernel)) ggX7_of_X7_finding
set_option maxRecDepth 20000 in
theorem ggX7_of_X4_take : GoodIn wsX7_of wsX4_take := goodIn_r _ [28, 29, 30, 31, 32, 33, 34, 35, 36, 37, 135, 136, 137, 138, 139, 121, 122, 123, 124, 125, 126, 127, 128, 129, 130, 131, 132, 133, 134] (by decide +kernel) (by decide +kernel)
set_option maxRecDepth 20000 in
theorem gX7_of_X4_take : GoodIn wsX7_of (wsV RX7 147 RX4 yX4_take wsX4_take) := goodIn_app (goodIn_of _ (by decide +kernel)) ggX7_of_X4_take
set_option maxRecDepth 20000 in
theorem ggX7_of_X6_seenCells : GoodIn wsX7_of wsX6_seenCells := goodIn_r _ [42, 43, 44, 45, 46, 41, 47, 48, 49, 50, 51, 52, 53, 54, 55, 56, 57, 58, 59, 60, 61, 62, 121, 122, 123, 124, 125, 126, 127, 128, 129, 130, 131, 132, 133, 134] (by decide +kernel) (by decide +kernel)
set_option maxRecDepth 20000 in
theorem gX7_of_X6_seenCells : GoodIn wsX7_of (wsV RX7 151 RX6 yX6_seenCells wsX6_seenCells) := goodIn_app (goodIn_of _ (by decide +kernel)) ggX7_of_X6_seenCells
set_option maxRecDepth 20000 in
theorem ggX7_of_X4_target : GoodIn wsX7_of wsX4_target := goodIn_r _ [66, 33, 31, 35, 67, 68, 69, 27, 70, 71, 72, 51, 73, 74, 75, 76, 77, 78, 79, 80, 81, 82, 83, 84, 85, 86, 87, 88, 89, 90, 91, 92, 93, 57, 58, 59, 60, 61, 62, 94, 95, 96, 97, 29, 98, 99, 100, 101, 102, 103, 135, 136, 137, 138, 139, 121, 122, 123, 124, 125, 126, 127, 128, 129, 130, 131, 132, 133, 134] (by decide +kernel) (by decide +kernel)
set_option maxRecDepth 20000 in
theorem gX7_of_X4_target : GoodIn wsX7_of (wsV RX7 155 RX4 yX4_target wsX4_target) := goodIn_app (goodIn_of _ (by decide +kernel)) ggX7_of_X4_target
set_option maxRecDepth 20000 in
theorem ggX7_of_X4_isSeen : GoodIn wsX7_of wsX4_isSeen := goodIn_r _ [107, 33, 67, 68, 69, 27, 70, 71, 72, 51, 73, 84, 85, 86, 135, 136, 137, 138, 139] (by decide +kernel) (by decide +kernel)
set_option maxRecDepth 20000 in
theorem gX7_of_X4_isSeen : GoodIn wsX7_of (wsV RX7 159 RX4 yX4_isSeen wsX4_isSeen) := goodIn_app (goodIn_of _ (by decide +kernel)) ggX7_of_X4_isSeen
theorem dX7_of_0 : decode cX7_of 0 = .ok (.aload_n 0, 1) := by decide +kernel
theorem dX7_of_1 : decode cX7_of 1 = .ok (.iload_n 1, 1) := by decide +kernel
theorem dX7_of_2 : decode cX7_of 2 = .ok (.invokevirtual 129, 3) := by decide +kernel
theorem dX7_of_5 : decode cX7_of 5 = .ok (.ifCond .ne 9, 3) := by decide +kernel
theorem dX7_of_8 : decode cX7_of 8 = .ok (.aload_n 0, 1) := by decide +kernel
theorem dX7_of_9 : decode cX7_of 9 = .ok (.iconst 0, 1) := by decide +kernel
theorem dX7_of_10 : decode cX7_of 10 = .ok (.invokevirtual 89, 3) := by decide +kernel
theorem dX7_of_13 : decode cX7_of 13 = .ok (.ireturn, 1) := by decide +kernel
theorem dX7_of_14 : decode cX7_of 14 = .ok (.iload_n 2, 1) := by decide +kernel
theorem dX7_of_15 : decode cX7_of 15 = .ok (.tableswitch 159 0 6 #[41, 51, 61, 71, 81, 91, 121], 41) := by decide +kernel
theorem dX7_of_56 : decode cX7_of 56 = .ok (.aload_n 0, 1) := by decide +kernel
theorem dX7_of_57 : decode cX7_of 57 = .ok (.getfield 10, 3) := by decide +kernel
theorem dX7_of_60 : decode cX7_of 60 = .ok (.getfield 132, 3) := by decide +kernel
theorem dX7_of_63 : decode cX7_of 63 = .ok (.iload_n 1, 1) := by decide +kernel
theorem dX7_of_64 : decode cX7_of 64 = .ok (.iaload, 1) := by decide +kernel
theorem dX7_of_65 : decode cX7_of 65 = .ok (.ireturn, 1) := by decide +kernel
theorem dX7_of_66 : decode cX7_of 66 = .ok (.aload_n 0, 1) := by decide +kernel
theorem dX7_of_67 : decode cX7_of 67 = .ok (.getfield 10, 3) := by decide +kernel
theorem dX7_of_70 : decode cX7_of 70 = .ok (.getfield 135, 3) := by decide +kernel
theorem dX7_of_73 : decode cX7_of 73 = .ok (.iload_n 1, 1) := by decide +kernel
theorem dX7_of_74 : decode cX7_of 74 = .ok (.iaload, 1) := by decide +kernel
theorem dX7_of_75 : decode cX7_of 75 = .ok (.ireturn, 1) := by decide +kernel
theorem dX7_of_76 : decode cX7_of 76 = .ok (.aload_n 0, 1) := by decide +kernel
theorem dX7_of_77 : decode cX7_of 77 = .ok (.getfield 10, 3) := by decide +kernel
theorem dX7_of_80 : decode cX7_of 80 = .ok (.getfield 138, 3) := by decide +kernel
theorem dX7_of_83 : decode cX7_of 83 = .ok (.iload_n 1, 1) := by decide +kernel
theorem dX7_of_84 : decode cX7_of 84 = .ok (.iaload, 1) := by decide +kernel
theorem dX7_of_85 : decode cX7_of 85 = .ok (.ireturn, 1) := by decide +kernel
theorem dX7_of_86 : decode cX7_of 86 = .ok (.aload_n 0, 1) := by decide +kernel
theorem dX7_of_87 : decode cX7_of 87 = .ok (.getfield 10, 3) := by decide +kernel
theorem dX7_of_90 : decode cX7_of 90 = .ok (.getfield 141, 3) := by decide +kernel
theorem dX7_of_93 : decode cX7_of 93 = .ok (.iload_n 1, 1) := by decide +kernel
theorem dX7_of_94 : decode cX7_of 94 = .ok (.iaload, 1) := by decide +kernel
theorem dX7_of_95 : decode cX7_of 95 = .ok (.ireturn, 1) := by decide +kernel
theorem dX7_of_96 : decode cX7_of 96 = .ok (.aload_n 0, 1) := by decide +kernel
theorem dX7_of_97 : decode cX7_of 97 = .ok (.getfield 10, 3) := by decide +kernel
theorem dX7_of_100 : decode cX7_of 100 = .ok (.getfield 144, 3) := by decide +kernel
theorem dX7_of_103 : decode cX7_of 103 = .ok (.iload_n 1, 1) := by decide +kernel
theorem dX7_of_104 : decode cX7_of 104 = .ok (.iaload, 1) := by decide +kernel
theorem dX7_of_105 : decode cX7_of 105 = .ok (.ireturn, 1) := by decide +kernel
theorem dX7_of_106 : decode cX7_of 106 = .ok (.aload_n 0, 1) := by decide +kernel
theorem dX7_of_107 : decode cX7_of 107 = .ok (.getfield 31, 3) := by decide +kernel
theorem dX7_of_110 : decode cX7_of 110 = .ok (.iload_n 1, 1) := by decide +kernel
theorem dX7_of_111 : decode cX7_of 111 = .ok (.invokevirtual 147, 3) := by decide +kernel
theorem dX7_of_114 : decode cX7_of 114 = .ok (.aload_n 0, 1) := by decide +kernel
theorem dX7_of_115 : decode cX7_of 115 = .ok (.getfield 31, 3) := by decide +kernel
theorem dX7_of_118 : decode cX7_of 118 = .ok (.aload_n 0, 1) := by decide +kernel
theorem dX7_of_119 : decode cX7_of 119 = .ok (.getfield 10, 3) := by decide +kernel
theorem dX7_of_122 : decode cX7_of 122 = .ok (.aload_n 0, 1) := by decide +kernel
theorem dX7_of_123 : decode cX7_of 123 = .ok (.getfield 10, 3) := by decide +kernel
theorem dX7_of_126 : decode cX7_of 126 = .ok (.getfield 115, 3) := by decide +kernel
theorem dX7_of_129 : decode cX7_of 129 = .ok (.invokevirtual 151, 3) := by decide +kernel
theorem dX7_of_132 : decode cX7_of 132 = .ok (.invokevirtual 155, 3) := by decide +kernel
theorem dX7_of_135 : decode cX7_of 135 = .ok (.ireturn, 1) := by decide +kernel
theorem dX7_of_136 : decode cX7_of 136 = .ok (.aload_n 0, 1) := by decide +kernel
theorem dX7_of_137 : decode cX7_of 137 = .ok (.getfield 31, 3) := by decide +kernel
theorem dX7_of_140 : decode cX7_of 140 = .ok (.iload_n 1, 1) := by decide +kernel
theorem dX7_of_141 : decode cX7_of 141 = .ok (.invokevirtual 147, 3) := by decide +kernel
theorem dX7_of_144 : decode cX7_of 144 = .ok (.aload_n 0, 1) := by decide +kernel
theorem dX7_of_145 : decode cX7_of 145 = .ok (.getfield 31, 3) := by decide +kernel
theorem dX7_of_148 : decode cX7_of 148 = .ok (.aload_n 0, 1) := by decide +kernel
theorem dX7_of_149 : decode cX7_of 149 = .ok (.getfield 10, 3) := by decide +kernel
theorem dX7_of_152 : decode cX7_of 152 = .ok (.aload_n 0, 1) := by decide +kernel
theorem dX7_of_153 : decode cX7_of 153 = .ok (.getfield 10, 3) := by decide +kernel
theorem dX7_of_156 : decode cX7_of 156 = .ok (.getfield 115, 3) := by decide +kernel
theorem dX7_of_159 : decode cX7_of 159 = .ok (.invokevirtual 151, 3) := by decide +kernel
theorem dX7_of_162 : decode cX7_of 162 = .ok (.invokevirtual 159, 3) := by decide +kernel
theorem dX7_of_165 : decode cX7_of 165 = .ok (.ifCond .eq 7, 3) := by decide +kernel
theorem dX7_of_168 : decode cX7_of 168 = .ok (.iconst 1, 1) := by decide +kernel
theorem dX7_of_169 : decode cX7_of 169 = .ok (.goto 4, 3) := by decide +kernel
theorem dX7_of_172 : decode cX7_of 172 = .ok (.iconst 0, 1) := by decide +kernel
theorem dX7_of_173 : decode cX7_of 173 = .ok (.ireturn, 1) := by decide +kernel
theorem dX7_of_174 : decode cX7_of 174 = .ok (.aload_n 0, 1) := by decide +kernel
theorem dX7_of_175 : decode cX7_of 175 = .ok (.iconst 0, 1) := by decide +kernel
theorem dX7_of_176 : decode cX7_of 176 = .ok (.invokevirtual 89, 3) := by decide +kernel
theorem dX7_of_179 : decode cX7_of 179 = .ok (.ireturn, 1) := by decide +kernel
set_option maxRecDepth 20000 in
theorem ggX7_change_X7_isBather : GoodIn wsX7_change wsX7_isBather := goodIn_r _ [11, 1, 12, 13, 14, 10, 15, 29, 30, 31, 32, 33, 34, 35, 36, 37, 38, 39, 40, 41, 42, 43, 44, 45, 46, 47, 48, 49, 50, 51, 52, 53, 54, 55] (by decide +kernel) (by decide +kernel)
set_option maxRecDepth 20000 in
theorem gX7_change_X7_isBather : GoodIn wsX7_change (wsV RX7 129 RX7 yX7_isBather wsX7_isBather) := goodIn_app (goodIn_of _ (by decide +kernel)) ggX7_change_X7_isBather
set_option maxRecDepth 20000 in
theorem ggX7_change_X7_finding : GoodIn wsX7_change wsX7_finding := goodIn_r _ [19, 20, 21, 29, 30, 31, 32, 33, 34, 35, 36, 37, 38, 39, 40, 41] (by decide +kernel) (by decide +kernel)
set_option maxRecDepth 20000 in
theorem gX7_change_X7_finding : GoodIn wsX7_change (wsV RX7 89 RX7 yX7_finding wsX7_finding) := goodIn_app (goodIn_of _ (by decide +kernel)) ggX7_change_X7_finding
set_option maxRecDepth 20000 in
theorem ggX7_change_X7_changeWithin : GoodIn wsX7_change wsX7_changeWithin := goodIn_r _ [25, 13, 14, 10, 15, 26, 27, 28, 16, 17, 18, 19, 20, 21, 29, 30, 31, 32, 33, 34, 35, 36, 37, 38, 39, 40, 41] (by decide +kernel) (by decide +kernel)
set_option maxRecDepth 20000 in
theorem gX7_change_X7_changeWithin : GoodIn wsX7_change (wsV RX7 163 RX7 yX7_changeWithin wsX7_changeWithin) := goodIn_app (goodIn_of _ (by decide +kernel)) ggX7_change_X7_changeWithin
theorem dX7_change_0 : decode cX7_change 0 = .ok (.aload_n 0, 1) := by decide +kernel
theorem dX7_change_1 : decode cX7_change 1 = .ok (.iload_n 1, 1) := by decide +kernel
theorem dX7_change_2 : decode cX7_change 2 = .ok (.invokevirtual 129, 3) := by decide +kernel
theorem dX7_change_5 : decode cX7_change 5 = .ok (.ifCond .ne 9, 3) := by decide +kernel
theorem dX7_change_8 : decode cX7_change 8 = .ok (.aload_n 0, 1) := by decide +kernel
theorem dX7_change_9 : decode cX7_change 9 = .ok (.iconst 0, 1) := by decide +kernel
theorem dX7_change_10 : decode cX7_change 10 = .ok (.invokevirtual 89, 3) := by decide +kernel
theorem dX7_change_13 : decode cX7_change 13 = .ok (.ireturn, 1) := by decide +kernel
theorem dX7_change_14 : decode cX7_change 14 = .ok (.iload_n 2, 1) := by decide +kernel
theorem dX7_change_15 : decode cX7_change 15 = .ok (.tableswitch 112 0 4 #[33, 49, 65, 80, 96], 33) := by decide +kernel
theorem dX7_change_48 : decode cX7_change 48 = .ok (.aload_n 0, 1) := by decide +kernel
theorem dX7_change_49 : decode cX7_change 49 = .ok (.aload_n 0, 1) := by decide +kernel
theorem dX7_change_50 : decode cX7_change 50 = .ok (.getfield 10, 3) := by decide +kernel
theorem dX7_change_53 : decode cX7_change 53 = .ok (.getfield 132, 3) := by decide +kernel
theorem dX7_change_56 : decode cX7_change 56 = .ok (.iload_n 1, 1) := by decide +kernel
theorem dX7_change_57 : decode cX7_change 57 = .ok (.iload_n 3, 1) := by decide +kernel
theorem dX7_change_58 : decode cX7_change 58 = .ok (.bipush 6, 2) := by decide +kernel
theorem dX7_change_60 : decode cX7_change 60 = .ok (.invokevirtual 163, 3) := by decide +kernel
theorem dX7_change_63 : decode cX7_change 63 = .ok (.ireturn, 1) := by decide +kernel
theorem dX7_change_64 : decode cX7_change 64 = .ok (.aload_n 0, 1) := by decide +kernel
theorem dX7_change_65 : decode cX7_change 65 = .ok (.aload_n 0, 1) := by decide +kernel
theorem dX7_change_66 : decode cX7_change 66 = .ok (.getfield 10, 3) := by decide +kernel
theorem dX7_change_69 : decode cX7_change 69 = .ok (.getfield 135, 3) := by decide +kernel
theorem dX7_change_72 : decode cX7_change 72 = .ok (.iload_n 1, 1) := by decide +kernel
theorem dX7_change_73 : decode cX7_change 73 = .ok (.iload_n 3, 1) := by decide +kernel
theorem dX7_change_74 : decode cX7_change 74 = .ok (.bipush 47, 2) := by decide +kernel
theorem dX7_change_76 : decode cX7_change 76 = .ok (.invokevirtual 163, 3) := by decide +kernel
theorem dX7_change_79 : decode cX7_change 79 = .ok (.ireturn, 1) := by decide +kernel
theorem dX7_change_80 : decode cX7_change 80 = .ok (.aload_n 0, 1) := by decide +kernel
theorem dX7_change_81 : decode cX7_change 81 = .ok (.aload_n 0, 1) := by decide +kernel
theorem dX7_change_82 : decode cX7_change 82 = .ok (.getfield 10, 3) := by decide +kernel
theorem dX7_change_85 : decode cX7_change 85 = .ok (.getfield 138, 3) := by decide +kernel
theorem dX7_change_88 : decode cX7_change 88 = .ok (.iload_n 1, 1) := by decide +kernel
theorem dX7_change_89 : decode cX7_change 89 = .ok (.iload_n 3, 1) := by decide +kernel
theorem dX7_change_90 : decode cX7_change 90 = .ok (.iconst 1, 1) := by decide +kernel
theorem dX7_change_91 : decode cX7_change 91 = .ok (.invokevirtual 163, 3) := by decide +kernel
theorem dX7_change_94 : decode cX7_change 94 = .ok (.ireturn, 1) := by decide +kernel
theorem dX7_change_95 : decode cX7_change 95 = .ok (.aload_n 0, 1) := by decide +kernel
theorem dX7_change_96 : decode cX7_change 96 = .ok (.aload_n 0, 1) := by decide +kernel
theorem dX7_change_97 : decode cX7_change 97 = .ok (.getfield 10, 3) := by decide +kernel
theorem dX7_change_100 : decode cX7_change 100 = .ok (.getfield 141, 3) := by decide +kernel
theorem dX7_change_103 : decode cX7_change 103 = .ok (.iload_n 1, 1) := by decide +kernel
theorem dX7_change_104 : decode cX7_change 104 = .ok (.iload_n 3, 1) := by decide +kernel
theorem dX7_change_105 : decode cX7_change 105 = .ok (.bipush 99, 2) := by decide +kernel
theorem dX7_change_107 : decode cX7_change 107 = .ok (.invokevirtual 163, 3) := by decide +kernel
theorem dX7_change_110 : decode cX7_change 110 = .ok (.ireturn, 1) := by decide +kernel
theorem dX7_change_111 : decode cX7_change 111 = .ok (.aload_n 0, 1) := by decide +kernel
theorem dX7_change_112 : decode cX7_change 112 = .ok (.aload_n 0, 1) := by decide +kernel
theorem dX7_change_113 : decode cX7_change 113 = .ok (.getfield 10, 3) := by decide +kernel
theorem dX7_change_116 : decode cX7_change 116 = .ok (.getfield 144, 3) := by decide +kernel
theorem dX7_change_119 : decode cX7_change 119 = .ok (.iload_n 1, 1) := by decide +kernel
theorem dX7_change_120 : decode cX7_change 120 = .ok (.iload_n 3, 1) := by decide +kernel
theorem dX7_change_121 : decode cX7_change 121 = .ok (.bipush 7, 2) := by decide +kernel
theorem dX7_change_123 : decode cX7_change 123 = .ok (.invokevirtual 163, 3) := by decide +kernel
theorem dX7_change_126 : decode cX7_change 126 = .ok (.ireturn, 1) := by decide +kernel
theorem dX7_change_127 : decode cX7_change 127 = .ok (.aload_n 0, 1) := by decide +kernel
theorem dX7_change_128 : decode cX7_change 128 = .ok (.iconst 0, 1) := by decide +kernel
theorem dX7_change_129 : decode cX7_change 129 = .ok (.invokevirtual 89, 3) := by decide +kernel
theorem dX7_change_132 : decode cX7_change 132 = .ok (.ireturn, 1) := by decide +kernel
set_option maxRecDepth 20000 in
theorem ggX7_go_X7_isWithin : GoodIn wsX7_go wsX7_isWithin := goodIn_r _ [8] (by decide +kernel) (by decide +kernel)
set_option maxRecDepth 20000 in
theorem gX7_go_X7_isWithin : GoodIn wsX7_go (va_wsS RX7 85 yX7_isWithin wsX7_isWithin) := goodIn_app (goodIn_of _ (by decide +kernel)) ggX7_go_X7_isWithin
set_option maxRecDepth 20000 in
theorem ggX7_go_X7_finding : GoodIn wsX7_go wsX7_finding := goodIn_r _ [12, 13, 14, 139, 140, 141, 142, 143, 144, 145, 146, 147, 148, 149, 150, 151] (by decide +kernel) (by decide +kernel)
set_option maxRecDepth 20000 in
theorem gX7_go_X7_finding : GoodIn wsX7_go (wsV RX7 89 RX7 yX7_finding wsX7_finding) := goodIn_app (goodIn_of _ (by decide +kernel)) ggX7_go_X7_finding
set_option maxRecDepth 20000 in
theorem ggX7_go_X6_seenCells : GoodIn wsX7_go wsX6_seenCells := goodIn_r _ [19, 20, 21, 22, 23, 18, 24, 25, 26, 27, 28, 29, 30, 31, 32, 33, 34, 35, 36, 37, 38, 39, 152, 153, 154, 155, 156, 157, 158, 159, 160, 161, 162, 163, 164, 165] (by decide +kernel) (by decide +kernel)
set_option maxRecDepth 20000 in
theorem gX7_go_X6_seenCells : GoodIn wsX7_go (wsV RX7 151 RX6 yX6_seenCells wsX6_seenCells) := goodIn_app (goodIn_of _ (by decide +kernel)) ggX7_go_X6_seenCells
set_option maxRecDepth 20000 in
theorem ggX7_go_X7_passMinute : GoodIn wsX7_go wsX7_passMinute := goodIn_r _ [43, 1, 44, 45, 3, 46, 47, 48, 32, 49, 2, 50, 51, 52, 53, 54, 55, 56, 57, 58, 59, 60, 61, 62, 63, 64, 65, 66, 67, 68, 69, 70, 71, 72, 73, 74, 28, 75, 76, 38, 39, 77, 78, 79, 80, 81, 82, 83, 84, 85, 86, 87, 88, 89, 90, 91, 92, 93, 94, 95, 96, 97, 98, 99, 100, 34, 35, 36, 37, 101, 102, 103, 104, 105, 106, 107, 108, 109, 110, 111, 112, 113, 114, 115, 116, 117, 139, 140, 141, 142, 143, 144, 145, 146, 147, 148, 149, 150, 151, 152, 153, 154, 155, 156, 157, 158, 159, 160, 161, 162, 163, 164, 165, 166, 167, 168, 169, 170] (by decide +kernel) (by decide +kernel)
set_option maxRecDepth 20000 in
theorem gX7_go_X7_passMinute : GoodIn wsX7_go (wsV RX7 171 RX7 yX7_passMinute wsX7_passMinute) := goodIn_app (goodIn_of _ (by decide +kernel)) ggX7_go_X7_passMinute
set_option maxRecDepth 20000 in
theorem ggX7_go_X6_howManyOut : GoodIn wsX7_go wsX6_howManyOut := goodIn_r _ [121, 122, 123, 124, 18, 125, 126, 127, 128, 129, 130, 131, 132, 133, 134, 135, 136, 137, 138, 152, 153, 154, 155, 156, 157, 158, 159, 160, 161, 162, 163, 164, 165] (by decide +kernel) (by decide +kernel)
set_option maxRecDepth 20000 in
theorem gX7_go_X6_howManyOut : GoodIn wsX7_go (wsV RX7 174 RX6 yX6_howManyOut wsX6_howManyOut) := goodIn_app (goodIn_of _ (by decide +kernel)) ggX7_go_X6_howManyOut
theorem dX7_go_0 : decode cX7_go 0 = .ok (.iload_n 1, 1) := by decide +kernel
theorem dX7_go_1 : decode cX7_go 1 = .ok (.iconst 1, 1) := by decide +kernel
theorem dX7_go_2 : decode cX7_go 2 = .ok (.bipush 60, 2) := by decide +kernel
theorem dX7_go_4 : decode cX7_go 4 = .ok (.invokestatic 85, 3) := by decide +kernel
theorem dX7_go_7 : decode cX7_go 7 = .ok (.ifCond .ne 9, 3) := by decide +kernel
theorem dX7_go_10 : decode cX7_go 10 = .ok (.aload_n 0, 1) := by decide +kernel
theorem dX7_go_11 : decode cX7_go 11 = .ok (.iconst 0, 1) := by decide +kernel
theorem dX7_go_12 : decode cX7_go 12 = .ok (.invokevirtual 89, 3) := by decide +kernel
theorem dX7_go_15 : decode cX7_go 15 = .ok (.ireturn, 1) := by decide +kernel
theorem dX7_go_16 : decode cX7_go 16 = .ok (.aload_n 0, 1) := by decide +kernel
theorem dX7_go_17 : decode cX7_go 17 = .ok (.getfield 10, 3) := by decide +kernel
theorem dX7_go_20 : decode cX7_go 20 = .ok (.getfield 167, 3) := by decide +kernel
theorem dX7_go_23 : decode cX7_go 23 = .ok (.iload_n 1, 1) := by decide +kernel
theorem dX7_go_24 : decode cX7_go 24 = .ok (.iadd, 1) := by decide +kernel
theorem dX7_go_25 : decode cX7_go 25 = .ok (.ldc 170, 2) := by decide +kernel
theorem dX7_go_27 : decode cX7_go 27 = .ok (.if_icmp .le 9, 3) := by decide +kernel
theorem dX7_go_30 : decode cX7_go 30 = .ok (.aload_n 0, 1) := by decide +kernel
theorem dX7_go_31 : decode cX7_go 31 = .ok (.iconst 4, 1) := by decide +kernel
theorem dX7_go_32 : decode cX7_go 32 = .ok (.invokevirtual 89, 3) := by decide +kernel
theorem dX7_go_35 : decode cX7_go 35 = .ok (.ireturn, 1) := by decide +kernel
theorem dX7_go_36 : decode cX7_go 36 = .ok (.aload_n 0, 1) := by decide +kernel
theorem dX7_go_37 : decode cX7_go 37 = .ok (.getfield 10, 3) := by decide +kernel
theorem dX7_go_40 : decode cX7_go 40 = .ok (.aload_n 0, 1) := by decide +kernel
theorem dX7_go_41 : decode cX7_go 41 = .ok (.getfield 10, 3) := by decide +kernel
theorem dX7_go_44 : decode cX7_go 44 = .ok (.getfield 115, 3) := by decide +kernel
theorem dX7_go_47 : decode cX7_go 47 = .ok (.invokevirtual 151, 3) := by decide +kernel
theorem dX7_go_50 : decode cX7_go 50 = .ok (.lstore_n 2, 1) := by decide +kernel
theorem dX7_go_51 : decode cX7_go 51 = .ok (.iconst 0, 1) := by decide +kernel
theorem dX7_go_52 : decode cX7_go 52 = .ok (.istore 4, 2) := by decide +kernel
theorem dX7_go_54 : decode cX7_go 54 = .ok (.iload 4, 2) := by decide +kernel
theorem dX7_go_56 : decode cX7_go 56 = .ok (.iload_n 1, 1) := by decide +kernel
theorem dX7_go_57 : decode cX7_go 57 = .ok (.if_icmp .ge 15, 3) := by decide +kernel
theorem dX7_go_60 : decode cX7_go 60 = .ok (.aload_n 0, 1) := by decide +kernel
theorem dX7_go_61 : decode cX7_go 61 = .ok (.lload_n 2, 1) := by decide +kernel
theorem dX7_go_62 : decode cX7_go 62 = .ok (.invokevirtual 171, 3) := by decide +kernel
theorem dX7_go_65 : decode cX7_go 65 = .ok (.pop, 1) := by decide +kernel
theorem dX7_go_66 : decode cX7_go 66 = .ok (.iinc 4 1, 3) := by decide +kernel
theorem dX7_go_69 : decode cX7_go 69 = .ok (.goto (-15), 3) := by decide +kernel
theorem dX7_go_72 : decode cX7_go 72 = .ok (.aload_n 0, 1) := by decide +kernel
theorem dX7_go_73 : decode cX7_go 73 = .ok (.getfield 10, 3) := by decide +kernel
theorem dX7_go_76 : decode cX7_go 76 = .ok (.invokevirtual 174, 3) := by decide +kernel
theorem dX7_go_79 : decode cX7_go 79 = .ok (.ireturn, 1) := by decide +kernel
set_option maxRecDepth 20000 in
theorem ggX7_now_X6_whoIsAt : GoodIn wsX7_now wsX6_whoIsAt := goodIn_r _ [9, 10, 11, 63, 64, 65, 66, 67, 68, 69, 70, 71, 72, 73, 74, 75, 76] (by decide +kernel) (by decide +kernel)
set_option maxRecDepth 20000 in
theorem gX7_now_X6_whoIsAt : GoodIn wsX7_now (wsV RX7 178 RX6 yX6_whoIsAt wsX6_whoIsAt) := goodIn_app (goodIn_of _ (by decide +kernel)) ggX7_now_X6_whoIsAt
set_option maxRecDepth 20000 in
theorem ggX7_now_X6_seenCells : GoodIn wsX7_now wsX6_seenCells := goodIn_r _ [15, 16, 17, 18, 19, 8, 20, 21, 22, 23, 24, 25, 26, 27, 28, 29, 30, 31, 32, 33, 34, 35, 63, 64, 65, 66, 67, 68, 69, 70, 71, 72, 73, 74, 75, 76] (by decide +kernel) (by decide +kernel)
set_option maxRecDepth 20000 in
theorem gX7_now_X6_seenCells : GoodIn wsX7_now (wsV RX7 151 RX6 yX6_seenCells wsX6_seenCells) := goodIn_app (goodIn_of _ (by decide +kernel)) ggX7_now_X6_seenCells
set_option maxRecDepth 20000 in
theorem ggX7_now_J13_bitCount_95d88 : GoodIn wsX7_now wsJ13_bitCount_95d88 := goodIn_r _ [39, 40, 41, 42] (by decide +kernel) (by decide +kernel)
set_option maxRecDepth 20000 in
theorem gX7_now_J13_bitCount_95d88 : GoodIn wsX7_now (va_wsS RX7 184 yJ13_bitCount_95d88 wsJ13_bitCount_95d88) := goodIn_app (goodIn_of _ (by decide +kernel)) ggX7_now_J13_bitCount_95d88
set_option maxRecDepth 20000 in
theorem ggX7_now_X7_finding : GoodIn wsX7_now wsX7_finding := goodIn_r _ [47, 48, 49, 50, 51, 52, 53, 54, 55, 56, 57, 58, 59, 60, 61, 62] (by decide +kernel) (by decide +kernel)
set_option maxRecDepth 20000 in
theorem gX7_now_X7_finding : GoodIn wsX7_now (wsV RX7 89 RX7 yX7_finding wsX7_finding) := goodIn_app (goodIn_of _ (by decide +kernel)) ggX7_now_X7_finding
theorem dX7_now_0 : decode cX7_now 0 = .ok (.iload_n 1, 1) := by decide +kernel
theorem dX7_now_1 : decode cX7_now 1 = .ok (.tableswitch 101 0 5 #[39, 47, 57, 67, 75, 83], 39) := by decide +kernel
theorem dX7_now_40 : decode cX7_now 40 = .ok (.aload_n 0, 1) := by decide +kernel
theorem dX7_now_41 : decode cX7_now 41 = .ok (.getfield 10, 3) := by decide +kernel
theorem dX7_now_44 : decode cX7_now 44 = .ok (.getfield 167, 3) := by decide +kernel
theorem dX7_now_47 : decode cX7_now 47 = .ok (.ireturn, 1) := by decide +kernel
theorem dX7_now_48 : decode cX7_now 48 = .ok (.aload_n 0, 1) := by decide +kernel
theorem dX7_now_49 : decode cX7_now 49 = .ok (.getfield 10, 3) := by decide +kernel
theorem dX7_now_52 : decode cX7_now 52 = .ok (.bipush 100, 2) := by decide +kernel
theorem dX7_now_54 : decode cX7_now 54 = .ok (.invokevirtual 178, 3) := by decide +kernel
theorem dX7_now_57 : decode cX7_now 57 = .ok (.ireturn, 1) := by decide +kernel
theorem dX7_now_58 : decode cX7_now 58 = .ok (.aload_n 0, 1) := by decide +kernel
theorem dX7_now_59 : decode cX7_now 59 = .ok (.getfield 10, 3) := by decide +kernel
theorem dX7_now_62 : decode cX7_now 62 = .ok (.bipush 101, 2) := by decide +kernel
theorem dX7_now_64 : decode cX7_now 64 = .ok (.invokevirtual 178, 3) := by decide +kernel
theorem dX7_now_67 : decode cX7_now 67 = .ok (.ireturn, 1) := by decide +kernel
theorem dX7_now_68 : decode cX7_now 68 = .ok (.aload_n 0, 1) := by decide +kernel
theorem dX7_now_69 : decode cX7_now 69 = .ok (.getfield 10, 3) := by decide +kernel
theorem dX7_now_72 : decode cX7_now 72 = .ok (.getfield 181, 3) := by decide +kernel
theorem dX7_now_75 : decode cX7_now 75 = .ok (.ireturn, 1) := by decide +kernel
theorem dX7_now_76 : decode cX7_now 76 = .ok (.aload_n 0, 1) := by decide +kernel
theorem dX7_now_77 : decode cX7_now 77 = .ok (.getfield 10, 3) := by decide +kernel
theorem dX7_now_80 : decode cX7_now 80 = .ok (.getfield 115, 3) := by decide +kernel
theorem dX7_now_83 : decode cX7_now 83 = .ok (.ireturn, 1) := by decide +kernel
theorem dX7_now_84 : decode cX7_now 84 = .ok (.aload_n 0, 1) := by decide +kernel
theorem dX7_now_85 : decode cX7_now 85 = .ok (.getfield 10, 3) := by decide +kernel
theorem dX7_now_88 : decode cX7_now 88 = .ok (.aload_n 0, 1) := by decide +kernel
theorem dX7_now_89 : decode cX7_now 89 = .ok (.getfield 10, 3) := by decide +kernel
theorem dX7_now_92 : decode cX7_now 92 = .ok (.getfield 115, 3) := by decide +kernel
theorem dX7_now_95 : decode cX7_now 95 = .ok (.invokevirtual 151, 3) := by decide +kernel
theorem dX7_now_98 : decode cX7_now 98 = .ok (.invokestatic 184, 3) := by decide +kernel
theorem dX7_now_101 : decode cX7_now 101 = .ok (.ireturn, 1) := by decide +kernel
theorem dX7_now_102 : decode cX7_now 102 = .ok (.aload_n 0, 1) := by decide +kernel
theorem dX7_now_103 : decode cX7_now 103 = .ok (.iconst 0, 1) := by decide +kernel
theorem dX7_now_104 : decode cX7_now 104 = .ok (.invokevirtual 89, 3) := by decide +kernel
theorem dX7_now_107 : decode cX7_now 107 = .ok (.ireturn, 1) := by decide +kernel
set_option maxRecDepth 20000 in
theorem ggX7_seen_X6_seenCells : GoodIn wsX7_seen wsX6_seenCells := goodIn_r _ [7, 8, 9, 10, 11, 6, 12, 13, 14, 15, 16, 17, 18, 19, 20, 21, 22, 23, 24, 25, 26, 27, 41, 42, 43, 44, 45, 46, 47, 48, 49, 50, 51, 52, 53, 54] (by decide +kernel) (by decide +kernel)
set_option maxRecDepth 20000 in
theorem gX7_seen_X6_seenCells : GoodIn wsX7_seen (wsV RX7 151 RX6 yX6_seenCells wsX6_seenCells) := goodIn_app (goodIn_of _ (by decide +kernel)) ggX7_seen_X6_seenCells
theorem dX7_seen_0 : decode cX7_seen 0 = .ok (.aload_n 0, 1) := by decide +kernel
theorem dX7_seen_1 : decode cX7_seen 1 = .ok (.getfield 10, 3) := by decide +kernel
theorem dX7_seen_4 : decode cX7_seen 4 = .ok (.aload_n 0, 1) := by decide +kernel
theorem dX7_seen_5 : decode cX7_seen 5 = .ok (.getfield 10, 3) := by decide +kernel
theorem dX7_seen_8 : decode cX7_seen 8 = .ok (.getfield 115, 3) := by decide +kernel
theorem dX7_seen_11 : decode cX7_seen 11 = .ok (.invokevirtual 151, 3) := by decide +kernel
theorem dX7_seen_14 : decode cX7_seen 14 = .ok (.lreturn, 1) := by decide +kernel
set_option maxRecDepth 20000 in
theorem ggX7_ahead_X7_isBather : GoodIn wsX7_ahead wsX7_isBather := goodIn_r _ [9, 1, 10, 11, 12, 8, 13, 107, 108, 109, 110, 111, 112, 113, 114, 115, 116, 117, 118, 119, 120, 121, 122, 123, 124, 125, 126, 127, 128, 129, 130, 131, 132, 133] (by decide +kernel) (by decide +kernel)
set_option maxRecDepth 20000 in
theorem gX7_ahead_X7_isBather : GoodIn wsX7_ahead (wsV RX7 129 RX7 yX7_isBather wsX7_isBather) := goodIn_app (goodIn_of _ (by decide +kernel)) ggX7_ahead_X7_isBather
set_option maxRecDepth 20000 in
theorem ggX7_ahead_X7_isWithin : GoodIn wsX7_ahead wsX7_isWithin := goodIn_r _ [13] (by decide +kernel) (by decide +kernel)
set_option maxRecDepth 20000 in
theorem gX7_ahead_X7_isWithin : GoodIn wsX7_ahead (va_wsS RX7 85 yX7_isWithin wsX7_isWithin) := goodIn_app (goodIn_of _ (by decide +kernel)) ggX7_ahead_X7_isWithin
set_option maxRecDepth 20000 in
theorem ggX7_ahead_X7_finding : GoodIn wsX7_ahead wsX7_finding := goodIn_r _ [17, 18, 19, 107, 108, 109, 110, 111, 112, 113, 114, 115, 116, 117, 118, 119] (by decide +kernel) (by decide +kernel)
set_option maxRecDepth 20000 in
theorem gX7_ahead_X7_finding : GoodIn wsX7_ahead (wsV RX7 89 RX7 yX7_finding wsX7_finding) := goodIn_app (goodIn_of _ (by decide +kernel)) ggX7_ahead_X7_finding
set_option maxRecDepth 20000 in
theorem ggX7_ahead_X6_seenCells : GoodIn wsX7_ahead wsX6_seenCells := goodIn_r _ [24, 25, 26, 27, 28, 23, 29, 30, 31, 32, 33, 34, 35, 36, 37, 38, 39, 40, 41, 42, 43, 44, 120, 121, 122, 123, 124, 125, 126, 127, 128, 129, 130, 131, 132, 133] (by decide +kernel) (by decide +kernel)
set_option maxRecDepth 20000 in
theorem gX7_ahead_X6_seenCells : GoodIn wsX7_ahead (wsV RX7 151 RX6 yX6_seenCells wsX6_seenCells) := goodIn_app (goodIn_of _ (by decide +kernel)) ggX7_ahead_X6_seenCells
set_option maxRecDepth 20000 in
theorem ggX7_ahead_X4_take : GoodIn wsX7_ahead wsX4_take := goodIn_r _ [49, 50, 51, 52, 53, 54, 55, 56, 57, 58, 134, 135, 136, 137, 138, 120, 121, 122, 123, 124, 125, 126, 127, 128, 129, 130, 131, 132, 133] (by decide +kernel) (by decide +kernel)
set_option maxRecDepth 20000 in
theorem gX7_ahead_X4_take : GoodIn wsX7_ahead (wsV RX7 147 RX4 yX4_take wsX4_take) := goodIn_app (goodIn_of _ (by decide +kernel)) ggX7_ahead_X4_take
set_option maxRecDepth 20000 in
theorem ggX7_ahead_X4_pass : GoodIn wsX7_ahead wsX4_pass := goodIn_r _ [62, 52, 54, 56, 58, 63, 64, 37, 65, 66, 67, 68, 48, 69, 70, 71, 33, 72, 73, 43, 44, 74, 75, 76, 77, 78, 79, 80, 81, 82, 83, 84, 85, 86, 87, 88, 89, 90, 91, 92, 93, 94, 95, 96, 97, 39, 40, 41, 42, 98, 99, 100, 101, 50, 102, 103, 104, 105, 106, 134, 135, 136, 137, 138, 120, 121, 122, 123, 124, 125, 126, 127, 128, 129, 130, 131, 132, 133] (by decide +kernel) (by decide +kernel)
set_option maxRecDepth 20000 in
theorem gX7_ahead_X4_pass : GoodIn wsX7_ahead (wsV RX7 189 RX4 yX4_pass wsX4_pass) := goodIn_app (goodIn_of _ (by decide +kernel)) ggX7_ahead_X4_pass
theorem dX7_ahead_0 : decode cX7_ahead 0 = .ok (.aload_n 0, 1) := by decide +kernel
theorem dX7_ahead_1 : decode cX7_ahead 1 = .ok (.iload_n 1, 1) := by decide +kernel
theorem dX7_ahead_2 : decode cX7_ahead 2 = .ok (.invokevirtual 129, 3) := by decide +kernel
theorem dX7_ahead_5 : decode cX7_ahead 5 = .ok (.ifCond .eq 13, 3) := by decide +kernel
theorem dX7_ahead_8 : decode cX7_ahead 8 = .ok (.iload_n 2, 1) := by decide +kernel
theorem dX7_ahead_9 : decode cX7_ahead 9 = .ok (.iconst 0, 1) := by decide +kernel
theorem dX7_ahead_10 : decode cX7_ahead 10 = .ok (.bipush 100, 2) := by decide +kernel
theorem dX7_ahead_12 : decode cX7_ahead 12 = .ok (.invokestatic 85, 3) := by decide +kernel
theorem dX7_ahead_15 : decode cX7_ahead 15 = .ok (.ifCond .ne 9, 3) := by decide +kernel
theorem dX7_ahead_18 : decode cX7_ahead 18 = .ok (.aload_n 0, 1) := by decide +kernel
theorem dX7_ahead_19 : decode cX7_ahead 19 = .ok (.iconst 0, 1) := by decide +kernel
theorem dX7_ahead_20 : decode cX7_ahead 20 = .ok (.invokevirtual 89, 3) := by decide +kernel
theorem dX7_ahead_23 : decode cX7_ahead 23 = .ok (.ireturn, 1) := by decide +kernel
theorem dX7_ahead_24 : decode cX7_ahead 24 = .ok (.aload_n 0, 1) := by decide +kernel
theorem dX7_ahead_25 : decode cX7_ahead 25 = .ok (.getfield 10, 3) := by decide +kernel
theorem dX7_ahead_28 : decode cX7_ahead 28 = .ok (.aload_n 0, 1) := by decide +kernel
theorem dX7_ahead_29 : decode cX7_ahead 29 = .ok (.getfield 10, 3) := by decide +kernel
theorem dX7_ahead_32 : decode cX7_ahead 32 = .ok (.getfield 115, 3) := by decide +kernel
theorem dX7_ahead_35 : decode cX7_ahead 35 = .ok (.invokevirtual 151, 3) := by decide +kernel
theorem dX7_ahead_38 : decode cX7_ahead 38 = .ok (.lstore_n 3, 1) := by decide +kernel
theorem dX7_ahead_39 : decode cX7_ahead 39 = .ok (.aload_n 0, 1) := by decide +kernel
theorem dX7_ahead_40 : decode cX7_ahead 40 = .ok (.getfield 31, 3) := by decide +kernel
theorem dX7_ahead_43 : decode cX7_ahead 43 = .ok (.iload_n 1, 1) := by decide +kernel
theorem dX7_ahead_44 : decode cX7_ahead 44 = .ok (.invokevirtual 147, 3) := by decide +kernel
theorem dX7_ahead_47 : decode cX7_ahead 47 = .ok (.iconst 0, 1) := by decide +kernel
theorem dX7_ahead_48 : decode cX7_ahead 48 = .ok (.istore 5, 2) := by decide +kernel
theorem dX7_ahead_50 : decode cX7_ahead 50 = .ok (.iload 5, 2) := by decide +kernel
theorem dX7_ahead_52 : decode cX7_ahead 52 = .ok (.iload_n 2, 1) := by decide +kernel
theorem dX7_ahead_53 : decode cX7_ahead 53 = .ok (.if_icmp .ge 17, 3) := by decide +kernel
theorem dX7_ahead_56 : decode cX7_ahead 56 = .ok (.aload_n 0, 1) := by decide +kernel
theorem dX7_ahead_57 : decode cX7_ahead 57 = .ok (.getfield 31, 3) := by decide +kernel
theorem dX7_ahead_60 : decode cX7_ahead 60 = .ok (.lload_n 3, 1) := by decide +kernel
theorem dX7_ahead_61 : decode cX7_ahead 61 = .ok (.invokevirtual 189, 3) := by decide +kernel
theorem dX7_ahead_64 : decode cX7_ahead 64 = .ok (.iinc 5 1, 3) := by decide +kernel
theorem dX7_ahead_67 : decode cX7_ahead 67 = .ok (.goto (-17), 3) := by decide +kernel
theorem dX7_ahead_70 : decode cX7_ahead 70 = .ok (.aload_n 0, 1) := by decide +kernel
theorem dX7_ahead_71 : decode cX7_ahead 71 = .ok (.getfield 31, 3) := by decide +kernel
theorem dX7_ahead_74 : decode cX7_ahead 74 = .ok (.getfield 193, 3) := by decide +kernel
theorem dX7_ahead_77 : decode cX7_ahead 77 = .ok (.ireturn, 1) := by decide +kernel
set_option maxRecDepth 20000 in
theorem ggX7_out_X7_isBather : GoodIn wsX7_out wsX7_isBather := goodIn_r _ [8, 2, 9, 10, 11, 7, 12, 110, 111, 112, 113, 114, 115, 116, 117, 118, 119, 120, 121, 122, 123, 124, 125, 126, 127, 128, 129, 130, 131, 132, 133, 134, 135, 136] (by decide +kernel) (by decide +kernel)
set_option maxRecDepth 20000 in
theorem gX7_out_X7_isBather : GoodIn wsX7_out (wsV RX7 129 RX7 yX7_isBather wsX7_isBather) := goodIn_app (goodIn_of _ (by decide +kernel)) ggX7_out_X7_isBather
set_option maxRecDepth 20000 in
theorem ggX7_out_X7_finding : GoodIn wsX7_out wsX7_finding := goodIn_r _ [16, 17, 18, 110, 111, 112, 113, 114, 115, 116, 117, 118, 119, 120, 121, 122] (by decide +kernel) (by decide +kernel)
set_option maxRecDepth 20000 in
theorem gX7_out_X7_finding : GoodIn wsX7_out (wsV RX7 89 RX7 yX7_finding wsX7_finding) := goodIn_app (goodIn_of _ (by decide +kernel)) ggX7_out_X7_finding
set_option maxRecDepth 20000 in
theorem ggX7_out_X4_take : GoodIn wsX7_out wsX4_take := goodIn_r _ [23, 24, 25, 26, 27, 28, 29, 30, 31, 32, 137, 138, 139, 140, 141, 123, 124, 125, 126, 127, 128, 129, 130, 131, 132, 133, 134, 135, 136] (by decide +kernel) (by decide +kernel)
set_option maxRecDepth 20000 in
theorem gX7_out_X4_take : GoodIn wsX7_out (wsV RX7 147 RX4 yX4_take wsX4_take) := goodIn_app (goodIn_of _ (by decide +kernel)) ggX7_out_X4_take
set_option maxRecDepth 20000 in
theorem ggX7_out_X6_seenCells : GoodIn wsX7_out wsX6_seenCells := goodIn_r _ [37, 38, 39, 40, 41, 36, 42, 43, 44, 45, 46, 47, 48, 49, 50, 51, 52, 53, 54, 55, 56, 57, 123, 124, 125, 126, 127, 128, 129, 130, 131, 132, 133, 134, 135, 136] (by decide +kernel) (by decide +kernel)
set_option maxRecDepth 20000 in
theorem gX7_out_X6_seenCells : GoodIn wsX7_out (wsV RX7 151 RX6 yX6_seenCells wsX6_seenCells) := goodIn_app (goodIn_of _ (by decide +kernel)) ggX7_out_X6_seenCells
set_option maxRecDepth 20000 in
theorem ggX7_out_X4_minutesTillOut : GoodIn wsX7_out wsX4_minutesTillOut := goodIn_r _ [61, 62, 63, 64, 22, 65, 28, 66, 67, 46, 68, 69, 70, 71, 72, 26, 30, 32, 73, 74, 50, 75, 76, 56, 57, 77, 78, 79, 80, 81, 82, 83, 84, 85, 86, 87, 88, 89, 90, 91, 92, 93, 94, 95, 96, 97, 98, 99, 100, 52, 53, 54, 55, 101, 102, 103, 104, 24, 105, 106, 107, 108, 109, 137, 138, 139, 140, 141, 123, 124, 125, 126, 127, 128, 129, 130, 131, 132, 133, 134, 135, 136] (by decide +kernel) (by decide +kernel)
set_option maxRecDepth 20000 in
theorem gX7_out_X4_minutesTillOut : GoodIn wsX7_out (wsV RX7 195 RX4 yX4_minutesTillOut wsX4_minutesTillOut) := goodIn_app (goodIn_of _ (by decide +kernel)) ggX7_out_X4_minutesTillOut
theorem dX7_out_0 : decode cX7_out 0 = .ok (.aload_n 0, 1) := by decide +kernel
theorem dX7_out_1 : decode cX7_out 1 = .ok (.iload_n 1, 1) := by decide +kernel
theorem dX7_out_2 : decode cX7_out 2 = .ok (.invokevirtual 129, 3) := by decide +kernel
theorem dX7_out_5 : decode cX7_out 5 = .ok (.ifCond .ne 9, 3) := by decide +kernel
theorem dX7_out_8 : decode cX7_out 8 = .ok (.aload_n 0, 1) := by decide +kernel
theorem dX7_out_9 : decode cX7_out 9 = .ok (.iconst 0, 1) := by decide +kernel
theorem dX7_out_10 : decode cX7_out 10 = .ok (.invokevirtual 89, 3) := by decide +kernel
theorem dX7_out_13 : decode cX7_out 13 = .ok (.ireturn, 1) := by decide +kernel
theorem dX7_out_14 : decode cX7_out 14 = .ok (.aload_n 0, 1) := by decide +kernel
theorem dX7_out_15 : decode cX7_out 15 = .ok (.getfield 31, 3) := by decide +kernel
theorem dX7_out_18 : decode cX7_out 18 = .ok (.iload_n 1, 1) := by decide +kernel
theorem dX7_out_19 : decode cX7_out 19 = .ok (.invokevirtual 147, 3) := by decide +kernel
theorem dX7_out_22 : decode cX7_out 22 = .ok (.aload_n 0, 1) := by decide +kernel
theorem dX7_out_23 : decode cX7_out 23 = .ok (.getfield 31, 3) := by decide +kernel
theorem dX7_out_26 : decode cX7_out 26 = .ok (.aload_n 0, 1) := by decide +kernel
theorem dX7_out_27 : decode cX7_out 27 = .ok (.getfield 10, 3) := by decide +kernel
theorem dX7_out_30 : decode cX7_out 30 = .ok (.aload_n 0, 1) := by decide +kernel
theorem dX7_out_31 : decode cX7_out 31 = .ok (.getfield 10, 3) := by decide +kernel
theorem dX7_out_34 : decode cX7_out 34 = .ok (.getfield 115, 3) := by decide +kernel
theorem dX7_out_37 : decode cX7_out 37 = .ok (.invokevirtual 151, 3) := by decide +kernel
theorem dX7_out_40 : decode cX7_out 40 = .ok (.bipush 100, 2) := by decide +kernel
theorem dX7_out_42 : decode cX7_out 42 = .ok (.invokevirtual 195, 3) := by decide +kernel
theorem dX7_out_45 : decode cX7_out 45 = .ok (.istore_n 2, 1) := by decide +kernel
theorem dX7_out_46 : decode cX7_out 46 = .ok (.iload_n 2, 1) := by decide +kernel
theorem dX7_out_47 : decode cX7_out 47 = .ok (.ifCond .ge 11, 3) := by decide +kernel
theorem dX7_out_50 : decode cX7_out 50 = .ok (.aload_n 0, 1) := by decide +kernel
theorem dX7_out_51 : decode cX7_out 51 = .ok (.iconst 3, 1) := by decide +kernel
theorem dX7_out_52 : decode cX7_out 52 = .ok (.invokevirtual 89, 3) := by decide +kernel
theorem dX7_out_55 : decode cX7_out 55 = .ok (.goto 4, 3) := by decide +kernel
theorem dX7_out_58 : decode cX7_out 58 = .ok (.iload_n 2, 1) := by decide +kernel
theorem dX7_out_59 : decode cX7_out 59 = .ok (.ireturn, 1) := by decide +kernel
set_option maxRecDepth 20000 in
theorem ggX7_caught_X7_isBather : GoodIn wsX7_caught wsX7_isBather := goodIn_r _ [8, 2, 9, 10, 11, 7, 12, 114, 115, 116, 117, 118, 119, 120, 121, 122, 123, 124, 125, 126, 127, 128, 129, 130, 131, 132, 133, 134, 135, 136, 137, 138, 139, 140] (by decide +kernel) (by decide +kernel)
set_option maxRecDepth 20000 in
theorem gX7_caught_X7_isBather : GoodIn wsX7_caught (wsV RX7 129 RX7 yX7_isBather wsX7_isBather) := goodIn_app (goodIn_of _ (by decide +kernel)) ggX7_caught_X7_isBather
set_option maxRecDepth 20000 in
theorem ggX7_caught_X7_finding : GoodIn wsX7_caught wsX7_finding := goodIn_r _ [16, 17, 18, 114, 115, 116, 117, 118, 119, 120, 121, 122, 123, 124, 125, 126] (by decide +kernel) (by decide +kernel)
set_option maxRecDepth 20000 in
theorem gX7_caught_X7_finding : GoodIn wsX7_caught (wsV RX7 89 RX7 yX7_finding wsX7_finding) := goodIn_app (goodIn_of _ (by decide +kernel)) ggX7_caught_X7_finding
set_option maxRecDepth 20000 in
theorem ggX7_caught_X4_take : GoodIn wsX7_caught wsX4_take := goodIn_r _ [23, 24, 25, 26, 27, 28, 29, 30, 31, 32, 141, 142, 143, 144, 145, 127, 128, 129, 130, 131, 132, 133, 134, 135, 136, 137, 138, 139, 140] (by decide +kernel) (by decide +kernel)
set_option maxRecDepth 20000 in
theorem gX7_caught_X4_take : GoodIn wsX7_caught (wsV RX7 147 RX4 yX4_take wsX4_take) := goodIn_app (goodIn_of _ (by decide +kernel)) ggX7_caught_X4_take
set_option maxRecDepth 20000 in
theorem ggX7_caught_X6_seenCells : GoodIn wsX7_caught wsX6_seenCells := goodIn_r _ [37, 38, 39, 40, 41, 36, 42, 43, 44, 45, 46, 47, 48, 49, 50, 51, 52, 53, 54, 55, 56, 57, 127, 128, 129, 130, 131, 132, 133, 134, 135, 136, 137, 138, 139, 140] (by decide +kernel) (by decide +kernel)
set_option maxRecDepth 20000 in
theorem gX7_caught_X6_seenCells : GoodIn wsX7_caught (wsV RX7 151 RX6 yX6_seenCells wsX6_seenCells) := goodIn_app (goodIn_of _ (by decide +kernel)) ggX7_caught_X6_seenCells
set_option maxRecDepth 20000 in
theorem ggX7_caught_X4_minutesTillSeen : GoodIn wsX7_caught wsX4_minutesTillSeen := goodIn_r _ [61, 62, 63, 64, 22, 65, 28, 66, 67, 46, 68, 69, 70, 71, 72, 73, 74, 75, 76, 77, 78, 79, 26, 30, 32, 80, 81, 50, 82, 83, 56, 57, 84, 85, 86, 87, 88, 89, 90, 91, 92, 93, 94, 95, 96, 97, 98, 99, 100, 101, 102, 103, 104, 52, 53, 54, 55, 105, 106, 107, 108, 24, 109, 110, 111, 112, 113, 141, 142, 143, 144, 145, 127, 128, 129, 130, 131, 132, 133, 134, 135, 136, 137, 138, 139, 140] (by decide +kernel) (by decide +kernel)
set_option maxRecDepth 20000 in
theorem gX7_caught_X4_minutesTillSeen : GoodIn wsX7_caught (wsV RX7 199 RX4 yX4_minutesTillSeen wsX4_minutesTillSeen) := goodIn_app (goodIn_of _ (by decide +kernel)) ggX7_caught_X4_minutesTillSeen
theorem dX7_caught_0 : decode cX7_caught 0 = .ok (.aload_n 0, 1) := by decide +kernel
theorem dX7_caught_1 : decode cX7_caught 1 = .ok (.iload_n 1, 1) := by decide +kernel
theorem dX7_caught_2 : decode cX7_caught 2 = .ok (.invokevirtual 129, 3) := by decide +kernel
theorem dX7_caught_5 : decode cX7_caught 5 = .ok (.ifCond .ne 9, 3) := by decide +kernel
theorem dX7_caught_8 : decode cX7_caught 8 = .ok (.aload_n 0, 1) := by decide +kernel
theorem dX7_caught_9 : decode cX7_caught 9 = .ok (.iconst 0, 1) := by decide +kernel
theorem dX7_caught_10 : decode cX7_caught 10 = .ok (.invokevirtual 89, 3) := by decide +kernel
theorem dX7_caught_13 : decode cX7_caught 13 = .ok (.ireturn, 1) := by decide +kernel
theorem dX7_caught_14 : decode cX7_caught 14 = .ok (.aload_n 0, 1) := by decide +kernel
theorem dX7_caught_15 : decode cX7_caught 15 = .ok (.getfield 31, 3) := by decide +kernel
theorem dX7_caught_18 : decode cX7_caught 18 = .ok (.iload_n 1, 1) := by decide +kernel
theorem dX7_caught_19 : decode cX7_caught 19 = .ok (.invokevirtual 147, 3) := by decide +kernel
theorem dX7_caught_22 : decode cX7_caught 22 = .ok (.aload_n 0, 1) := by decide +kernel
theorem dX7_caught_23 : decode cX7_caught 23 = .ok (.getfield 31, 3) := by decide +kernel
theorem dX7_caught_26 : decode cX7_caught 26 = .ok (.aload_n 0, 1) := by decide +kernel
theorem dX7_caught_27 : decode cX7_caught 27 = .ok (.getfield 10, 3) := by decide +kernel
theorem dX7_caught_30 : decode cX7_caught 30 = .ok (.aload_n 0, 1) := by decide +kernel
theorem dX7_caught_31 : decode cX7_caught 31 = .ok (.getfield 10, 3) := by decide +kernel
theorem dX7_caught_34 : decode cX7_caught 34 = .ok (.getfield 115, 3) := by decide +kernel
theorem dX7_caught_37 : decode cX7_caught 37 = .ok (.invokevirtual 151, 3) := by decide +kernel
theorem dX7_caught_40 : decode cX7_caught 40 = .ok (.bipush 100, 2) := by decide +kernel
theorem dX7_caught_42 : decode cX7_caught 42 = .ok (.invokevirtual 199, 3) := by decide +kernel
theorem dX7_caught_45 : decode cX7_caught 45 = .ok (.istore_n 2, 1) := by decide +kernel
theorem dX7_caught_46 : decode cX7_caught 46 = .ok (.iload_n 2, 1) := by decide +kernel
theorem dX7_caught_47 : decode cX7_caught 47 = .ok (.ifCond .ge 11, 3) := by decide +kernel
theorem dX7_caught_50 : decode cX7_caught 50 = .ok (.aload_n 0, 1) := by decide +kernel
theorem dX7_caught_51 : decode cX7_caught 51 = .ok (.iconst 3, 1) := by decide +kernel
theorem dX7_caught_52 : decode cX7_caught 52 = .ok (.invokevirtual 89, 3) := by decide +kernel
theorem dX7_caught_55 : decode cX7_caught 55 = .ok (.goto 4, 3) := by decide +kernel
theorem dX7_caught_58 : decode cX7_caught 58 = .ok (.iload_n 2, 1) := by decide +kernel
theorem dX7_caught_59 : decode cX7_caught 59 = .ok (.ireturn, 1) := by decide +kernel
set_option maxRecDepth 20000 in
theorem ggX7_meet_X7_isBather : GoodIn wsX7_meet wsX7_isBather := goodIn_r _ [10, 1, 11, 12, 13, 9, 14, 109, 110, 111, 112, 113, 114, 115, 116, 117, 118, 119, 120, 121, 122, 123, 124, 125, 126, 127, 128, 129, 130, 131, 132, 133, 134, 135] (by decide +kernel) (by decide +kernel)
set_option maxRecDepth 20000 in
theorem gX7_meet_X7_isBather : GoodIn wsX7_meet (wsV RX7 129 RX7 yX7_isBather wsX7_isBather) := goodIn_app (goodIn_of _ (by decide +kernel)) ggX7_meet_X7_isBather
set_option maxRecDepth 20000 in
theorem ggX7_meet_X7_finding : GoodIn wsX7_meet wsX7_finding := goodIn_r _ [18, 19, 20, 109, 110, 111, 112, 113, 114, 115, 116, 117, 118, 119, 120, 121] (by decide +kernel) (by decide +kernel)
set_option maxRecDepth 20000 in
theorem gX7_meet_X7_finding : GoodIn wsX7_meet (wsV RX7 89 RX7 yX7_finding wsX7_finding) := goodIn_app (goodIn_of _ (by decide +kernel)) ggX7_meet_X7_finding
set_option maxRecDepth 20000 in
theorem ggX7_meet_X6_seenCells : GoodIn wsX7_meet wsX6_seenCells := goodIn_r _ [25, 26, 27, 28, 29, 24, 30, 31, 32, 33, 34, 35, 36, 37, 38, 39, 40, 41, 42, 43, 44, 45, 122, 123, 124, 125, 126, 127, 128, 129, 130, 131, 132, 133, 134, 135] (by decide +kernel) (by decide +kernel)
set_option maxRecDepth 20000 in
theorem gX7_meet_X6_seenCells : GoodIn wsX7_meet (wsV RX7 151 RX6 yX6_seenCells wsX6_seenCells) := goodIn_app (goodIn_of _ (by decide +kernel)) ggX7_meet_X6_seenCells
set_option maxRecDepth 20000 in
theorem ggX7_meet_X4_take : GoodIn wsX7_meet wsX4_take := goodIn_r _ [50, 51, 52, 53, 54, 55, 56, 57, 58, 59, 136, 137, 138, 139, 140, 122, 123, 124, 125, 126, 127, 128, 129, 130, 131, 132, 133, 134, 135] (by decide +kernel) (by decide +kernel)
set_option maxRecDepth 20000 in
theorem gX7_meet_X4_take : GoodIn wsX7_meet (wsV RX7 147 RX4 yX4_take wsX4_take) := goodIn_app (goodIn_of _ (by decide +kernel)) ggX7_meet_X4_take
set_option maxRecDepth 20000 in
theorem ggX7_meet_X4_isIn : GoodIn wsX7_meet wsX4_isIn := goodIn_r _ [63, 55, 64, 65, 34, 66, 136, 137, 138, 139, 140] (by decide +kernel) (by decide +kernel)
set_option maxRecDepth 20000 in
theorem gX7_meet_X4_isIn : GoodIn wsX7_meet (wsV RX7 202 RX4 yX4_isIn wsX4_isIn) := goodIn_app (goodIn_of _ (by decide +kernel)) ggX7_meet_X4_isIn
set_option maxRecDepth 20000 in
theorem ggX7_meet_X4_pass : GoodIn wsX7_meet wsX4_pass := goodIn_r _ [70, 53, 55, 57, 59, 71, 72, 38, 73, 74, 61, 62, 49, 63, 64, 65, 34, 66, 75, 44, 45, 76, 77, 78, 79, 80, 81, 82, 83, 84, 85, 86, 87, 88, 89, 90, 91, 92, 93, 94, 95, 96, 97, 98, 99, 40, 41, 42, 43, 100, 101, 102, 103, 51, 104, 105, 106, 107, 108, 136, 137, 138, 139, 140, 122, 123, 124, 125, 126, 127, 128, 129, 130, 131, 132, 133, 134, 135] (by decide +kernel) (by decide +kernel)
set_option maxRecDepth 20000 in
theorem gX7_meet_X4_pass : GoodIn wsX7_meet (wsV RX7 189 RX4 yX4_pass wsX4_pass) := goodIn_app (goodIn_of _ (by decide +kernel)) ggX7_meet_X4_pass
theorem dX7_meet_0 : decode cX7_meet 0 = .ok (.aload_n 0, 1) := by decide +kernel
theorem dX7_meet_1 : decode cX7_meet 1 = .ok (.iload_n 1, 1) := by decide +kernel
theorem dX7_meet_2 : decode cX7_meet 2 = .ok (.invokevirtual 129, 3) := by decide +kernel
theorem dX7_meet_5 : decode cX7_meet 5 = .ok (.ifCond .eq 16, 3) := by decide +kernel
theorem dX7_meet_8 : decode cX7_meet 8 = .ok (.aload_n 0, 1) := by decide +kernel
theorem dX7_meet_9 : decode cX7_meet 9 = .ok (.iload_n 2, 1) := by decide +kernel
theorem dX7_meet_10 : decode cX7_meet 10 = .ok (.invokevirtual 129, 3) := by decide +kernel
theorem dX7_meet_13 : decode cX7_meet 13 = .ok (.ifCond .eq 8, 3) := by decide +kernel
theorem dX7_meet_16 : decode cX7_meet 16 = .ok (.iload_n 1, 1) := by decide +kernel
theorem dX7_meet_17 : decode cX7_meet 17 = .ok (.iload_n 2, 1) := by decide +kernel
theorem dX7_meet_18 : decode cX7_meet 18 = .ok (.if_icmp .ne 9, 3) := by decide +kernel
theorem dX7_meet_21 : decode cX7_meet 21 = .ok (.aload_n 0, 1) := by decide +kernel
theorem dX7_meet_22 : decode cX7_meet 22 = .ok (.iconst 0, 1) := by decide +kernel
theorem dX7_meet_23 : decode cX7_meet 23 = .ok (.invokevirtual 89, 3) := by decide +kernel
theorem dX7_meet_26 : decode cX7_meet 26 = .ok (.ireturn, 1) := by decide +kernel
theorem dX7_meet_27 : decode cX7_meet 27 = .ok (.aload_n 0, 1) := by decide +kernel
theorem dX7_meet_28 : decode cX7_meet 28 = .ok (.getfield 10, 3) := by decide +kernel
theorem dX7_meet_31 : decode cX7_meet 31 = .ok (.aload_n 0, 1) := by decide +kernel
theorem dX7_meet_32 : decode cX7_meet 32 = .ok (.getfield 10, 3) := by decide +kernel
theorem dX7_meet_35 : decode cX7_meet 35 = .ok (.getfield 115, 3) := by decide +kernel
theorem dX7_meet_38 : decode cX7_meet 38 = .ok (.invokevirtual 151, 3) := by decide +kernel
theorem dX7_meet_41 : decode cX7_meet 41 = .ok (.lstore_n 3, 1) := by decide +kernel
theorem dX7_meet_42 : decode cX7_meet 42 = .ok (.aload_n 0, 1) := by decide +kernel
theorem dX7_meet_43 : decode cX7_meet 43 = .ok (.getfield 31, 3) := by decide +kernel
theorem dX7_meet_46 : decode cX7_meet 46 = .ok (.iload_n 1, 1) := by decide +kernel
theorem dX7_meet_47 : decode cX7_meet 47 = .ok (.invokevirtual 147, 3) := by decide +kernel
theorem dX7_meet_50 : decode cX7_meet 50 = .ok (.aload_n 0, 1) := by decide +kernel
theorem dX7_meet_51 : decode cX7_meet 51 = .ok (.getfield 35, 3) := by decide +kernel
theorem dX7_meet_54 : decode cX7_meet 54 = .ok (.iload_n 2, 1) := by decide +kernel
theorem dX7_meet_55 : decode cX7_meet 55 = .ok (.invokevirtual 147, 3) := by decide +kernel
theorem dX7_meet_58 : decode cX7_meet 58 = .ok (.iconst 0, 1) := by decide +kernel
theorem dX7_meet_59 : decode cX7_meet 59 = .ok (.istore 5, 2) := by decide +kernel
theorem dX7_meet_61 : decode cX7_meet 61 = .ok (.iload 5, 2) := by decide +kernel
theorem dX7_meet_63 : decode cX7_meet 63 = .ok (.bipush 100, 2) := by decide +kernel
theorem dX7_meet_65 : decode cX7_meet 65 = .ok (.if_icmp .gt 55, 3) := by decide +kernel
theorem dX7_meet_68 : decode cX7_meet 68 = .ok (.aload_n 0, 1) := by decide +kernel
theorem dX7_meet_69 : decode cX7_meet 69 = .ok (.getfield 31, 3) := by decide +kernel
theorem dX7_meet_72 : decode cX7_meet 72 = .ok (.invokevirtual 202, 3) := by decide +kernel
theorem dX7_meet_75 : decode cX7_meet 75 = .ok (.ifCond .eq 23, 3) := by decide +kernel
theorem dX7_meet_78 : decode cX7_meet 78 = .ok (.aload_n 0, 1) := by decide +kernel
theorem dX7_meet_79 : decode cX7_meet 79 = .ok (.getfield 31, 3) := by decide +kernel
theorem dX7_meet_82 : decode cX7_meet 82 = .ok (.getfield 193, 3) := by decide +kernel
theorem dX7_meet_85 : decode cX7_meet 85 = .ok (.aload_n 0, 1) := by decide +kernel
theorem dX7_meet_86 : decode cX7_meet 86 = .ok (.getfield 35, 3) := by decide +kernel
theorem dX7_meet_89 : decode cX7_meet 89 = .ok (.getfield 193, 3) := by decide +kernel
theorem dX7_meet_92 : decode cX7_meet 92 = .ok (.if_icmp .ne 6, 3) := by decide +kernel
theorem dX7_meet_95 : decode cX7_meet 95 = .ok (.iload 5, 2) := by decide +kernel
theorem dX7_meet_97 : decode cX7_meet 97 = .ok (.ireturn, 1) := by decide +kernel
theorem dX7_meet_98 : decode cX7_meet 98 = .ok (.aload_n 0, 1) := by decide +kernel
theorem dX7_meet_99 : decode cX7_meet 99 = .ok (.getfield 31, 3) := by decide +kernel
theorem dX7_meet_102 : decode cX7_meet 102 = .ok (.lload_n 3, 1) := by decide +kernel
theorem dX7_meet_103 : decode cX7_meet 103 = .ok (.invokevirtual 189, 3) := by decide +kernel
theorem dX7_meet_106 : decode cX7_meet 106 = .ok (.aload_n 0, 1) := by decide +kernel
theorem dX7_meet_107 : decode cX7_meet 107 = .ok (.getfield 35, 3) := by decide +kernel
theorem dX7_meet_110 : decode cX7_meet 110 = .ok (.lload_n 3, 1) := by decide +kernel
theorem dX7_meet_111 : decode cX7_meet 111 = .ok (.invokevirtual 189, 3) := by decide +kernel
theorem dX7_meet_114 : decode cX7_meet 114 = .ok (.iinc 5 1, 3) := by decide +kernel
theorem dX7_meet_117 : decode cX7_meet 117 = .ok (.goto (-56), 3) := by decide +kernel
theorem dX7_meet_120 : decode cX7_meet 120 = .ok (.aload_n 0, 1) := by decide +kernel
theorem dX7_meet_121 : decode cX7_meet 121 = .ok (.iconst 3, 1) := by decide +kernel
theorem dX7_meet_122 : decode cX7_meet 122 = .ok (.invokevirtual 89, 3) := by decide +kernel
theorem dX7_meet_125 : decode cX7_meet 125 = .ok (.ireturn, 1) := by decide +kernel
set_option maxRecDepth 20000 in
theorem ggX7_kindFor_X7_isBather : GoodIn wsX7_kindFor wsX7_isBather := goodIn_r _ [9, 1, 10, 11, 12, 8, 13, 111, 112, 113, 114, 115, 116, 117, 118, 119, 120, 121, 122, 123, 124, 125, 126, 127, 128, 129, 130, 131, 132, 133, 134, 135, 136, 137] (by decide +kernel) (by decide +kernel)
set_option maxRecDepth 20000 in
theorem gX7_kindFor_X7_isBather : GoodIn wsX7_kindFor (wsV RX7 129 RX7 yX7_isBather wsX7_isBather) := goodIn_app (goodIn_of _ (by decide +kernel)) ggX7_kindFor_X7_isBather
set_option maxRecDepth 20000 in
theorem ggX7_kindFor_X7_finding : GoodIn wsX7_kindFor wsX7_finding := goodIn_r _ [17, 18, 19, 111, 112, 113, 114, 115, 116, 117, 118, 119, 120, 121, 122, 123] (by decide +kernel) (by decide +kernel)
set_option maxRecDepth 20000 in
theorem gX7_kindFor_X7_finding : GoodIn wsX7_kindFor (wsV RX7 89 RX7 yX7_finding wsX7_finding) := goodIn_app (goodIn_of _ (by decide +kernel)) ggX7_kindFor_X7_finding
set_option maxRecDepth 20000 in
theorem ggX7_kindFor_X6_seenCells : GoodIn wsX7_kindFor wsX6_seenCells := goodIn_r _ [24, 25, 26, 27, 28, 23, 29, 30, 31, 32, 33, 34, 35, 36, 37, 38, 39, 40, 41, 42, 43, 44, 124, 125, 126, 127, 128, 129, 130, 131, 132, 133, 134, 135, 136, 137] (by decide +kernel) (by decide +kernel)
set_option maxRecDepth 20000 in
theorem gX7_kindFor_X6_seenCells : GoodIn wsX7_kindFor (wsV RX7 151 RX6 yX6_seenCells wsX6_seenCells) := goodIn_app (goodIn_of _ (by decide +kernel)) ggX7_kindFor_X6_seenCells
set_option maxRecDepth 20000 in
theorem ggX7_kindFor_X4_take : GoodIn wsX7_kindFor wsX4_take := goodIn_r _ [49, 50, 51, 52, 53, 54, 55, 56, 57, 58, 138, 139, 140, 141, 142, 124, 125, 126, 127, 128, 129, 130, 131, 132, 133, 134, 135, 136, 137] (by decide +kernel) (by decide +kernel)
set_option maxRecDepth 20000 in
theorem gX7_kindFor_X4_take : GoodIn wsX7_kindFor (wsV RX7 147 RX4 yX4_take wsX4_take) := goodIn_app (goodIn_of _ (by decide +kernel)) ggX7_kindFor_X4_take
set_option maxRecDepth 20000 in
theorem ggX7_kindFor_X4_minutesTillOut : GoodIn wsX7_kindFor wsX4_minutesTillOut := goodIn_r _ [62, 63, 64, 65, 48, 66, 54, 67, 68, 33, 69, 70, 71, 72, 73, 52, 56, 58, 74, 75, 37, 76, 77, 43, 44, 78, 79, 80, 81, 82, 83, 84, 85, 86, 87, 88, 89, 90, 91, 92, 93, 94, 95, 96, 97, 98, 99, 100, 101, 39, 40, 41, 42, 102, 103, 104, 105, 50, 106, 107, 108, 109, 110, 138, 139, 140, 141, 142, 124, 125, 126, 127, 128, 129, 130, 131, 132, 133, 134, 135, 136, 137] (by decide +kernel) (by decide +kernel)
set_option maxRecDepth 20000 in
theorem gX7_kindFor_X4_minutesTillOut : GoodIn wsX7_kindFor (wsV RX7 195 RX4 yX4_minutesTillOut wsX4_minutesTillOut) := goodIn_app (goodIn_of _ (by decide +kernel)) ggX7_kindFor_X4_minutesTillOut
theorem dX7_kindFor_0 : decode cX7_kindFor 0 = .ok (.aload_n 0, 1) := by decide +kernel
theorem dX7_kindFor_1 : decode cX7_kindFor 1 = .ok (.iload_n 1, 1) := by decide +kernel
theorem dX7_kindFor_2 : decode cX7_kindFor 2 = .ok (.invokevirtual 129, 3) := by decide +kernel
theorem dX7_kindFor_5 : decode cX7_kindFor 5 = .ok (.ifCond .ne 9, 3) := by decide +kernel
theorem dX7_kindFor_8 : decode cX7_kindFor 8 = .ok (.aload_n 0, 1) := by decide +kernel
theorem dX7_kindFor_9 : decode cX7_kindFor 9 = .ok (.iconst 0, 1) := by decide +kernel
theorem dX7_kindFor_10 : decode cX7_kindFor 10 = .ok (.invokevirtual 89, 3) := by decide +kernel
theorem dX7_kindFor_13 : decode cX7_kindFor 13 = .ok (.ireturn, 1) := by decide +kernel
theorem dX7_kindFor_14 : decode cX7_kindFor 14 = .ok (.aload_n 0, 1) := by decide +kernel
theorem dX7_kindFor_15 : decode cX7_kindFor 15 = .ok (.getfield 10, 3) := by decide +kernel
theorem dX7_kindFor_18 : decode cX7_kindFor 18 = .ok (.aload_n 0, 1) := by decide +kernel
theorem dX7_kindFor_19 : decode cX7_kindFor 19 = .ok (.getfield 10, 3) := by decide +kernel
theorem dX7_kindFor_22 : decode cX7_kindFor 22 = .ok (.getfield 115, 3) := by decide +kernel
theorem dX7_kindFor_25 : decode cX7_kindFor 25 = .ok (.invokevirtual 151, 3) := by decide +kernel
theorem dX7_kindFor_28 : decode cX7_kindFor 28 = .ok (.lstore_n 2, 1) := by decide +kernel
theorem dX7_kindFor_29 : decode cX7_kindFor 29 = .ok (.iconst (-1), 1) := by decide +kernel
theorem dX7_kindFor_30 : decode cX7_kindFor 30 = .ok (.istore 4, 2) := by decide +kernel
theorem dX7_kindFor_32 : decode cX7_kindFor 32 = .ok (.bipush 101, 2) := by decide +kernel
theorem dX7_kindFor_34 : decode cX7_kindFor 34 = .ok (.istore 5, 2) := by decide +kernel
theorem dX7_kindFor_36 : decode cX7_kindFor 36 = .ok (.iconst 0, 1) := by decide +kernel
theorem dX7_kindFor_37 : decode cX7_kindFor 37 = .ok (.istore 6, 2) := by decide +kernel
theorem dX7_kindFor_39 : decode cX7_kindFor 39 = .ok (.iload 6, 2) := by decide +kernel
theorem dX7_kindFor_41 : decode cX7_kindFor 41 = .ok (.bipush 7, 2) := by decide +kernel
theorem dX7_kindFor_43 : decode cX7_kindFor 43 = .ok (.if_icmp .ge 53, 3) := by decide +kernel
theorem dX7_kindFor_46 : decode cX7_kindFor 46 = .ok (.aload_n 0, 1) := by decide +kernel
theorem dX7_kindFor_47 : decode cX7_kindFor 47 = .ok (.getfield 31, 3) := by decide +kernel
theorem dX7_kindFor_50 : decode cX7_kindFor 50 = .ok (.iload_n 1, 1) := by decide +kernel
theorem dX7_kindFor_51 : decode cX7_kindFor 51 = .ok (.invokevirtual 147, 3) := by decide +kernel
theorem dX7_kindFor_54 : decode cX7_kindFor 54 = .ok (.aload_n 0, 1) := by decide +kernel
theorem dX7_kindFor_55 : decode cX7_kindFor 55 = .ok (.getfield 31, 3) := by decide +kernel
theorem dX7_kindFor_58 : decode cX7_kindFor 58 = .ok (.iload 6, 2) := by decide +kernel
theorem dX7_kindFor_60 : decode cX7_kindFor 60 = .ok (.putfield 206, 3) := by decide +kernel
theorem dX7_kindFor_63 : decode cX7_kindFor 63 = .ok (.aload_n 0, 1) := by decide +kernel
theorem dX7_kindFor_64 : decode cX7_kindFor 64 = .ok (.getfield 31, 3) := by decide +kernel
theorem dX7_kindFor_67 : decode cX7_kindFor 67 = .ok (.lload_n 2, 1) := by decide +kernel
theorem dX7_kindFor_68 : decode cX7_kindFor 68 = .ok (.iload 5, 2) := by decide +kernel
theorem dX7_kindFor_70 : decode cX7_kindFor 70 = .ok (.iconst 1, 1) := by decide +kernel
theorem dX7_kindFor_71 : decode cX7_kindFor 71 = .ok (.isub, 1) := by decide +kernel
theorem dX7_kindFor_72 : decode cX7_kindFor 72 = .ok (.invokevirtual 195, 3) := by decide +kernel
theorem dX7_kindFor_75 : decode cX7_kindFor 75 = .ok (.istore 7, 2) := by decide +kernel
theorem dX7_kindFor_77 : decode cX7_kindFor 77 = .ok (.iload 7, 2) := by decide +kernel
theorem dX7_kindFor_79 : decode cX7_kindFor 79 = .ok (.ifCond .lt 11, 3) := by decide +kernel
theorem dX7_kindFor_82 : decode cX7_kindFor 82 = .ok (.iload 6, 2) := by decide +kernel
theorem dX7_kindFor_84 : decode cX7_kindFor 84 = .ok (.istore 4, 2) := by decide +kernel
theorem dX7_kindFor_86 : decode cX7_kindFor 86 = .ok (.iload 7, 2) := by decide +kernel
theorem dX7_kindFor_88 : decode cX7_kindFor 88 = .ok (.istore 5, 2) := by decide +kernel
theorem dX7_kindFor_90 : decode cX7_kindFor 90 = .ok (.iinc 6 1, 3) := by decide +kernel
theorem dX7_kindFor_93 : decode cX7_kindFor 93 = .ok (.goto (-54), 3) := by decide +kernel
theorem dX7_kindFor_96 : decode cX7_kindFor 96 = .ok (.iload 4, 2) := by decide +kernel
theorem dX7_kindFor_98 : decode cX7_kindFor 98 = .ok (.ifCond .ge 11, 3) := by decide +kernel
theorem dX7_kindFor_101 : decode cX7_kindFor 101 = .ok (.aload_n 0, 1) := by decide +kernel
theorem dX7_kindFor_102 : decode cX7_kindFor 102 = .ok (.iconst 3, 1) := by decide +kernel
theorem dX7_kindFor_103 : decode cX7_kindFor 103 = .ok (.invokevirtual 89, 3) := by decide +kernel
theorem dX7_kindFor_106 : decode cX7_kindFor 106 = .ok (.goto 5, 3) := by decide +kernel
theorem dX7_kindFor_109 : decode cX7_kindFor 109 = .ok (.iload 4, 2) := by decide +kernel
theorem dX7_kindFor_111 : decode cX7_kindFor 111 = .ok (.ireturn, 1) := by decide +kernel
set_option maxRecDepth 20000 in
theorem ggX7_sightFor_X7_isBather : GoodIn wsX7_sightFor wsX7_isBather := goodIn_r _ [7, 2, 8, 9, 10, 6, 11, 113, 114, 115, 116, 117, 118, 119, 120, 121, 122, 123, 124, 125, 126, 127, 128, 129, 130, 131, 132, 133, 134, 135, 136, 137, 138, 139] (by decide +kernel) (by decide +kernel)
set_option maxRecDepth 20000 in
theorem gX7_sightFor_X7_isBather : GoodIn wsX7_sightFor (wsV RX7 129 RX7 yX7_isBather wsX7_isBather) := goodIn_app (goodIn_of _ (by decide +kernel)) ggX7_sightFor_X7_isBather
set_option maxRecDepth 20000 in
theorem ggX7_sightFor_X7_finding : GoodIn wsX7_sightFor wsX7_finding := goodIn_r _ [15, 16, 17, 113, 114, 115, 116, 117, 118, 119, 120, 121, 122, 123, 124, 125] (by decide +kernel) (by decide +kernel)
set_option maxRecDepth 20000 in
theorem gX7_sightFor_X7_finding : GoodIn wsX7_sightFor (wsV RX7 89 RX7 yX7_finding wsX7_finding) := goodIn_app (goodIn_of _ (by decide +kernel)) ggX7_sightFor_X7_finding
set_option maxRecDepth 20000 in
theorem ggX7_sightFor_X4_take : GoodIn wsX7_sightFor wsX4_take := goodIn_r _ [22, 23, 24, 25, 26, 27, 28, 29, 30, 31, 140, 141, 142, 143, 144, 126, 127, 128, 129, 130, 131, 132, 133, 134, 135, 136, 137, 138, 139] (by decide +kernel) (by decide +kernel)
set_option maxRecDepth 20000 in
theorem gX7_sightFor_X4_take : GoodIn wsX7_sightFor (wsV RX7 147 RX4 yX4_take wsX4_take) := goodIn_app (goodIn_of _ (by decide +kernel)) ggX7_sightFor_X4_take
set_option maxRecDepth 20000 in
theorem ggX7_sightFor_X6_seenCells : GoodIn wsX7_sightFor wsX6_seenCells := goodIn_r _ [36, 37, 38, 39, 40, 35, 41, 42, 43, 44, 45, 46, 47, 48, 49, 50, 51, 52, 53, 54, 55, 56, 126, 127, 128, 129, 130, 131, 132, 133, 134, 135, 136, 137, 138, 139] (by decide +kernel) (by decide +kernel)
set_option maxRecDepth 20000 in
theorem gX7_sightFor_X6_seenCells : GoodIn wsX7_sightFor (wsV RX7 151 RX6 yX6_seenCells wsX6_seenCells) := goodIn_app (goodIn_of _ (by decide +kernel)) ggX7_sightFor_X6_seenCells
set_option maxRecDepth 20000 in
theorem ggX7_sightFor_X4_minutesTillSeen : GoodIn wsX7_sightFor wsX4_minutesTillSeen := goodIn_r _ [60, 61, 62, 63, 21, 64, 27, 65, 66, 45, 67, 68, 69, 70, 71, 72, 73, 74, 75, 76, 77, 78, 25, 29, 31, 79, 80, 49, 81, 82, 55, 56, 83, 84, 85, 86, 87, 88, 89, 90, 91, 92, 93, 94, 95, 96, 97, 98, 99, 100, 101, 102, 103, 51, 52, 53, 54, 104, 105, 106, 107, 23, 108, 109, 110, 111, 112, 140, 141, 142, 143, 144, 126, 127, 128, 129, 130, 131, 132, 133, 134, 135, 136, 137, 138, 139] (by decide +kernel) (by decide +kernel)
set_option maxRecDepth 20000 in
theorem gX7_sightFor_X4_minutesTillSeen : GoodIn wsX7_sightFor (wsV RX7 199 RX4 yX4_minutesTillSeen wsX4_minutesTillSeen) := goodIn_app (goodIn_of _ (by decide +kernel)) ggX7_sightFor_X4_minutesTillSeen
theorem dX7_sightFor_0 : decode cX7_sightFor 0 = .ok (.aload_n 0, 1) := by decide +kernel
theorem dX7_sightFor_1 : decode cX7_sightFor 1 = .ok (.iload_n 1, 1) := by decide +kernel
theorem dX7_sightFor_2 : decode cX7_sightFor 2 = .ok (.invokevirtual 129, 3) := by decide +kernel
theorem dX7_sightFor_5 : decode cX7_sightFor 5 = .ok (.ifCond .ne 9, 3) := by decide +kernel
theorem dX7_sightFor_8 : decode cX7_sightFor 8 = .ok (.aload_n 0, 1) := by decide +kernel
theorem dX7_sightFor_9 : decode cX7_sightFor 9 = .ok (.iconst 0, 1) := by decide +kernel
theorem dX7_sightFor_10 : decode cX7_sightFor 10 = .ok (.invokevirtual 89, 3) := by decide +kernel
theorem dX7_sightFor_13 : decode cX7_sightFor 13 = .ok (.ireturn, 1) := by decide +kernel
theorem dX7_sightFor_14 : decode cX7_sightFor 14 = .ok (.bipush 12, 2) := by decide +kernel
theorem dX7_sightFor_16 : decode cX7_sightFor 16 = .ok (.istore_n 2, 1) := by decide +kernel
theorem dX7_sightFor_17 : decode cX7_sightFor 17 = .ok (.iload_n 2, 1) := by decide +kernel
theorem dX7_sightFor_18 : decode cX7_sightFor 18 = .ok (.ifCond .lt 39, 3) := by decide +kernel
theorem dX7_sightFor_21 : decode cX7_sightFor 21 = .ok (.aload_n 0, 1) := by decide +kernel
theorem dX7_sightFor_22 : decode cX7_sightFor 22 = .ok (.getfield 31, 3) := by decide +kernel
theorem dX7_sightFor_25 : decode cX7_sightFor 25 = .ok (.iload_n 1, 1) := by decide +kernel
theorem dX7_sightFor_26 : decode cX7_sightFor 26 = .ok (.invokevirtual 147, 3) := by decide +kernel
theorem dX7_sightFor_29 : decode cX7_sightFor 29 = .ok (.aload_n 0, 1) := by decide +kernel
theorem dX7_sightFor_30 : decode cX7_sightFor 30 = .ok (.getfield 31, 3) := by decide +kernel
theorem dX7_sightFor_33 : decode cX7_sightFor 33 = .ok (.aload_n 0, 1) := by decide +kernel
theorem dX7_sightFor_34 : decode cX7_sightFor 34 = .ok (.getfield 10, 3) := by decide +kernel
theorem dX7_sightFor_37 : decode cX7_sightFor 37 = .ok (.iload_n 2, 1) := by decide +kernel
theorem dX7_sightFor_38 : decode cX7_sightFor 38 = .ok (.invokevirtual 151, 3) := by decide +kernel
theorem dX7_sightFor_41 : decode cX7_sightFor 41 = .ok (.bipush 100, 2) := by decide +kernel
theorem dX7_sightFor_43 : decode cX7_sightFor 43 = .ok (.invokevirtual 199, 3) := by decide +kernel
theorem dX7_sightFor_46 : decode cX7_sightFor 46 = .ok (.ifCond .ge 5, 3) := by decide +kernel
theorem dX7_sightFor_49 : decode cX7_sightFor 49 = .ok (.iload_n 2, 1) := by decide +kernel
theorem dX7_sightFor_50 : decode cX7_sightFor 50 = .ok (.ireturn, 1) := by decide +kernel
theorem dX7_sightFor_51 : decode cX7_sightFor 51 = .ok (.iinc 2 (-1), 3) := by decide +kernel
theorem dX7_sightFor_54 : decode cX7_sightFor 54 = .ok (.goto (-37), 3) := by decide +kernel
theorem dX7_sightFor_57 : decode cX7_sightFor 57 = .ok (.aload_n 0, 1) := by decide +kernel
theorem dX7_sightFor_58 : decode cX7_sightFor 58 = .ok (.iconst 3, 1) := by decide +kernel
theorem dX7_sightFor_59 : decode cX7_sightFor 59 = .ok (.invokevirtual 89, 3) := by decide +kernel
theorem dX7_sightFor_62 : decode cX7_sightFor 62 = .ok (.ireturn, 1) := by decide +kernel
set_option maxRecDepth 20000 in
theorem ggX7_way_X0_isCell : GoodIn wsX7_way wsX0_isCell := goodIn_r _ [7] (by decide +kernel) (by decide +kernel)
set_option maxRecDepth 20000 in
theorem gX7_way_X0_isCell : GoodIn wsX7_way (va_wsS RX7 79 yX0_isCell wsX0_isCell) := goodIn_app (goodIn_of _ (by decide +kernel)) ggX7_way_X0_isCell
set_option maxRecDepth 20000 in
theorem ggX7_way_X7_isSide : GoodIn wsX7_way wsX7_isSide := goodIn_r _ [11, 12, 13, 10, 14] (by decide +kernel) (by decide +kernel)
set_option maxRecDepth 20000 in
theorem gX7_way_X7_isSide : GoodIn wsX7_way (va_wsS RX7 208 yX7_isSide wsX7_isSide) := goodIn_app (goodIn_of _ (by decide +kernel)) ggX7_way_X7_isSide
set_option maxRecDepth 20000 in
theorem ggX7_way_X7_finding : GoodIn wsX7_way wsX7_finding := goodIn_r _ [18, 19, 20, 64, 65, 66, 67, 68, 69, 70, 71, 72, 73, 74, 75, 76] (by decide +kernel) (by decide +kernel)
set_option maxRecDepth 20000 in
theorem gX7_way_X7_finding : GoodIn wsX7_way (wsV RX7 89 RX7 yX7_finding wsX7_finding) := goodIn_app (goodIn_of _ (by decide +kernel)) ggX7_way_X7_finding
set_option maxRecDepth 20000 in
theorem ggX7_way_X6_seenCells : GoodIn wsX7_way wsX6_seenCells := goodIn_r _ [25, 26, 27, 28, 29, 24, 30, 31, 32, 33, 6, 34, 35, 36, 37, 38, 39, 40, 41, 42, 43, 44, 77, 78, 79, 80, 81, 82, 83, 84, 85, 86, 87, 88, 89, 90] (by decide +kernel) (by decide +kernel)
set_option maxRecDepth 20000 in
theorem gX7_way_X6_seenCells : GoodIn wsX7_way (wsV RX7 151 RX6 yX6_seenCells wsX6_seenCells) := goodIn_app (goodIn_of _ (by decide +kernel)) ggX7_way_X6_seenCells
set_option maxRecDepth 20000 in
theorem ggX7_way_X5_fewestSteps : GoodIn wsX7_way wsX5_fewestSteps := goodIn_r _ [48, 49, 50, 51, 6, 52, 53, 54, 55, 56, 57, 58, 59, 60, 61, 62, 63] (by decide +kernel) (by decide +kernel)
set_option maxRecDepth 20000 in
theorem gX7_way_X5_fewestSteps : GoodIn wsX7_way (va_wsS RX7 213 yX5_fewestSteps wsX5_fewestSteps) := goodIn_app (goodIn_of _ (by decide +kernel)) ggX7_way_X5_fewestSteps
theorem dX7_way_0 : decode cX7_way 0 = .ok (.iload_n 1, 1) := by decide +kernel
theorem dX7_way_1 : decode cX7_way 1 = .ok (.invokestatic 79, 3) := by decide +kernel
theorem dX7_way_4 : decode cX7_way 4 = .ok (.ifCond .eq 10, 3) := by decide +kernel
theorem dX7_way_7 : decode cX7_way 7 = .ok (.iload_n 2, 1) := by decide +kernel
theorem dX7_way_8 : decode cX7_way 8 = .ok (.invokestatic 208, 3) := by decide +kernel
theorem dX7_way_11 : decode cX7_way 11 = .ok (.ifCond .ne 9, 3) := by decide +kernel
theorem dX7_way_14 : decode cX7_way 14 = .ok (.aload_n 0, 1) := by decide +kernel
theorem dX7_way_15 : decode cX7_way 15 = .ok (.iconst 0, 1) := by decide +kernel
theorem dX7_way_16 : decode cX7_way 16 = .ok (.invokevirtual 89, 3) := by decide +kernel
theorem dX7_way_19 : decode cX7_way 19 = .ok (.ireturn, 1) := by decide +kernel
theorem dX7_way_20 : decode cX7_way 20 = .ok (.iload_n 1, 1) := by decide +kernel
theorem dX7_way_21 : decode cX7_way 21 = .ok (.iload_n 2, 1) := by decide +kernel
theorem dX7_way_22 : decode cX7_way 22 = .ok (.aload_n 0, 1) := by decide +kernel
theorem dX7_way_23 : decode cX7_way 23 = .ok (.getfield 10, 3) := by decide +kernel
theorem dX7_way_26 : decode cX7_way 26 = .ok (.aload_n 0, 1) := by decide +kernel
theorem dX7_way_27 : decode cX7_way 27 = .ok (.getfield 10, 3) := by decide +kernel
theorem dX7_way_30 : decode cX7_way 30 = .ok (.getfield 115, 3) := by decide +kernel
theorem dX7_way_33 : decode cX7_way 33 = .ok (.invokevirtual 151, 3) := by decide +kernel
theorem dX7_way_36 : decode cX7_way 36 = .ok (.ldc2_w 211, 3) := by decide +kernel
theorem dX7_way_39 : decode cX7_way 39 = .ok (.lxor, 1) := by decide +kernel
theorem dX7_way_40 : decode cX7_way 40 = .ok (.invokestatic 213, 3) := by decide +kernel
theorem dX7_way_43 : decode cX7_way 43 = .ok (.istore_n 3, 1) := by decide +kernel
theorem dX7_way_44 : decode cX7_way 44 = .ok (.iload_n 3, 1) := by decide +kernel
theorem dX7_way_45 : decode cX7_way 45 = .ok (.ifCond .ge 11, 3) := by decide +kernel
theorem dX7_way_48 : decode cX7_way 48 = .ok (.aload_n 0, 1) := by decide +kernel
theorem dX7_way_49 : decode cX7_way 49 = .ok (.iconst 3, 1) := by decide +kernel
theorem dX7_way_50 : decode cX7_way 50 = .ok (.invokevirtual 89, 3) := by decide +kernel
theorem dX7_way_53 : decode cX7_way 53 = .ok (.goto 4, 3) := by decide +kernel
theorem dX7_way_56 : decode cX7_way 56 = .ok (.iload_n 3, 1) := by decide +kernel
theorem dX7_way_57 : decode cX7_way 57 = .ok (.ireturn, 1) := by decide +kernel
set_option maxRecDepth 20000 in
theorem ggX7_next_X0_isCell : GoodIn wsX7_next wsX0_isCell := goodIn_r _ [7] (by decide +kernel) (by decide +kernel)
set_option maxRecDepth 20000 in
theorem gX7_next_X0_isCell : GoodIn wsX7_next (va_wsS RX7 79 yX0_isCell wsX0_isCell) := goodIn_app (goodIn_of _ (by decide +kernel)) ggX7_next_X0_isCell
set_option maxRecDepth 20000 in
theorem ggX7_next_X7_isSide : GoodIn wsX7_next wsX7_isSide := goodIn_r _ [11, 12, 13, 10, 14] (by decide +kernel) (by decide +kernel)
set_option maxRecDepth 20000 in
theorem gX7_next_X7_isSide : GoodIn wsX7_next (va_wsS RX7 208 yX7_isSide wsX7_isSide) := goodIn_app (goodIn_of _ (by decide +kernel)) ggX7_next_X7_isSide
set_option maxRecDepth 20000 in
theorem ggX7_next_X7_finding : GoodIn wsX7_next wsX7_finding := goodIn_r _ [18, 19, 20, 68, 69, 70, 71, 72, 73, 74, 75, 76, 77, 78, 79, 80] (by decide +kernel) (by decide +kernel)
set_option maxRecDepth 20000 in
theorem gX7_next_X7_finding : GoodIn wsX7_next (wsV RX7 89 RX7 yX7_finding wsX7_finding) := goodIn_app (goodIn_of _ (by decide +kernel)) ggX7_next_X7_finding
set_option maxRecDepth 20000 in
theorem ggX7_next_X6_seenCells : GoodIn wsX7_next wsX6_seenCells := goodIn_r _ [25, 26, 27, 28, 29, 24, 30, 31, 32, 33, 6, 34, 35, 36, 37, 38, 39, 40, 41, 42, 43, 44, 81, 82, 83, 84, 85, 86, 87, 88, 89, 90, 91, 92, 93, 94] (by decide +kernel) (by decide +kernel)
set_option maxRecDepth 20000 in
theorem gX7_next_X6_seenCells : GoodIn wsX7_next (wsV RX7 151 RX6 yX6_seenCells wsX6_seenCells) := goodIn_app (goodIn_of _ (by decide +kernel)) ggX7_next_X6_seenCells
set_option maxRecDepth 20000 in
theorem ggX7_next_X5_firstStep : GoodIn wsX7_next wsX5_firstStep := goodIn_r _ [48, 49, 50, 47, 51, 52, 53, 54, 6, 55, 56, 57, 58, 59, 60, 61, 62, 63, 64, 65, 66, 67, 33, 34, 35, 36, 37, 38, 39, 40, 41, 42, 43, 44] (by decide +kernel) (by decide +kernel)
set_option maxRecDepth 20000 in
theorem gX7_next_X5_firstStep : GoodIn wsX7_next (va_wsS RX7 217 yX5_firstStep wsX5_firstStep) := goodIn_app (goodIn_of _ (by decide +kernel)) ggX7_next_X5_firstStep
theorem dX7_next_0 : decode cX7_next 0 = .ok (.iload_n 1, 1) := by decide +kernel
theorem dX7_next_1 : decode cX7_next 1 = .ok (.invokestatic 79, 3) := by decide +kernel
theorem dX7_next_4 : decode cX7_next 4 = .ok (.ifCond .eq 10, 3) := by decide +kernel
theorem dX7_next_7 : decode cX7_next 7 = .ok (.iload_n 2, 1) := by decide +kernel
theorem dX7_next_8 : decode cX7_next 8 = .ok (.invokestatic 208, 3) := by decide +kernel
theorem dX7_next_11 : decode cX7_next 11 = .ok (.ifCond .ne 9, 3) := by decide +kernel
theorem dX7_next_14 : decode cX7_next 14 = .ok (.aload_n 0, 1) := by decide +kernel
theorem dX7_next_15 : decode cX7_next 15 = .ok (.iconst 0, 1) := by decide +kernel
theorem dX7_next_16 : decode cX7_next 16 = .ok (.invokevirtual 89, 3) := by decide +kernel
theorem dX7_next_19 : decode cX7_next 19 = .ok (.ireturn, 1) := by decide +kernel
theorem dX7_next_20 : decode cX7_next 20 = .ok (.iload_n 1, 1) := by decide +kernel
theorem dX7_next_21 : decode cX7_next 21 = .ok (.iload_n 2, 1) := by decide +kernel
theorem dX7_next_22 : decode cX7_next 22 = .ok (.aload_n 0, 1) := by decide +kernel
theorem dX7_next_23 : decode cX7_next 23 = .ok (.getfield 10, 3) := by decide +kernel
theorem dX7_next_26 : decode cX7_next 26 = .ok (.aload_n 0, 1) := by decide +kernel
theorem dX7_next_27 : decode cX7_next 27 = .ok (.getfield 10, 3) := by decide +kernel
theorem dX7_next_30 : decode cX7_next 30 = .ok (.getfield 115, 3) := by decide +kernel
theorem dX7_next_33 : decode cX7_next 33 = .ok (.invokevirtual 151, 3) := by decide +kernel
theorem dX7_next_36 : decode cX7_next 36 = .ok (.ldc2_w 211, 3) := by decide +kernel
theorem dX7_next_39 : decode cX7_next 39 = .ok (.lxor, 1) := by decide +kernel
theorem dX7_next_40 : decode cX7_next 40 = .ok (.invokestatic 217, 3) := by decide +kernel
theorem dX7_next_43 : decode cX7_next 43 = .ok (.istore_n 3, 1) := by decide +kernel
theorem dX7_next_44 : decode cX7_next 44 = .ok (.iload_n 3, 1) := by decide +kernel
theorem dX7_next_45 : decode cX7_next 45 = .ok (.ifCond .ge 11, 3) := by decide +kernel
theorem dX7_next_48 : decode cX7_next 48 = .ok (.aload_n 0, 1) := by decide +kernel
theorem dX7_next_49 : decode cX7_next 49 = .ok (.iconst 3, 1) := by decide +kernel
theorem dX7_next_50 : decode cX7_next 50 = .ok (.invokevirtual 89, 3) := by decide +kernel
theorem dX7_next_53 : decode cX7_next 53 = .ok (.goto 4, 3) := by decide +kernel
theorem dX7_next_56 : decode cX7_next 56 = .ok (.iload_n 3, 1) := by decide +kernel
theorem dX7_next_57 : decode cX7_next 57 = .ok (.ireturn, 1) := by decide +kernel
set_option maxRecDepth 20000 in
theorem ggX7_steamFor_X0_isCell : GoodIn wsX7_steamFor wsX0_isCell := goodIn_r _ [5] (by decide +kernel) (by decide +kernel)
set_option maxRecDepth 20000 in
theorem gX7_steamFor_X0_isCell : GoodIn wsX7_steamFor (va_wsS RX7 79 yX0_isCell wsX0_isCell) := goodIn_app (goodIn_of _ (by decide +kernel)) ggX7_steamFor_X0_isCell
set_option maxRecDepth 20000 in
theorem ggX7_steamFor_X7_isSide : GoodIn wsX7_steamFor wsX7_isSide := goodIn_r _ [9, 10, 11, 8, 12] (by decide +kernel) (by decide +kernel)
set_option maxRecDepth 20000 in
theorem gX7_steamFor_X7_isSide : GoodIn wsX7_steamFor (va_wsS RX7 208 yX7_isSide wsX7_isSide) := goodIn_app (goodIn_of _ (by decide +kernel)) ggX7_steamFor_X7_isSide
set_option maxRecDepth 20000 in
theorem ggX7_steamFor_X7_finding : GoodIn wsX7_steamFor wsX7_finding := goodIn_r _ [16, 17, 18, 73, 74, 75, 76, 77, 78, 79, 80, 81, 82, 83, 84, 85] (by decide +kernel) (by decide +kernel)
set_option maxRecDepth 20000 in
theorem gX7_steamFor_X7_finding : GoodIn wsX7_steamFor (wsV RX7 89 RX7 yX7_finding wsX7_finding) := goodIn_app (goodIn_of _ (by decide +kernel)) ggX7_steamFor_X7_finding
set_option maxRecDepth 20000 in
theorem ggX7_steamFor_X5_leastSteam : GoodIn wsX7_steamFor wsX5_leastSteam := goodIn_r _ [23, 24, 25, 26, 27, 28, 22, 29, 30, 31, 32, 33, 34, 35, 36, 37, 38, 39, 40, 41, 42, 43, 44, 45, 46, 47, 4, 48, 49, 50, 51, 52, 53, 54, 55, 56, 57, 58, 59, 60, 61, 62, 63, 64, 65, 66, 67, 68, 69, 70, 71, 72, 86, 87, 88, 89, 90, 91, 92, 93, 94, 95, 96, 97, 98, 99, 100, 101] (by decide +kernel) (by decide +kernel)
set_option maxRecDepth 20000 in
theorem gX7_steamFor_X5_leastSteam : GoodIn wsX7_steamFor (wsV RX7 220 RX5 yX5_leastSteam wsX5_leastSteam) := goodIn_app (goodIn_of _ (by decide +kernel)) ggX7_steamFor_X5_leastSteam
theorem dX7_steamFor_0 : decode cX7_steamFor 0 = .ok (.iload_n 1, 1) := by decide +kernel
theorem dX7_steamFor_1 : decode cX7_steamFor 1 = .ok (.invokestatic 79, 3) := by decide +kernel
theorem dX7_steamFor_4 : decode cX7_steamFor 4 = .ok (.ifCond .eq 10, 3) := by decide +kernel
theorem dX7_steamFor_7 : decode cX7_steamFor 7 = .ok (.iload_n 2, 1) := by decide +kernel
theorem dX7_steamFor_8 : decode cX7_steamFor 8 = .ok (.invokestatic 208, 3) := by decide +kernel
theorem dX7_steamFor_11 : decode cX7_steamFor 11 = .ok (.ifCond .ne 9, 3) := by decide +kernel
theorem dX7_steamFor_14 : decode cX7_steamFor 14 = .ok (.aload_n 0, 1) := by decide +kernel
theorem dX7_steamFor_15 : decode cX7_steamFor 15 = .ok (.iconst 0, 1) := by decide +kernel
theorem dX7_steamFor_16 : decode cX7_steamFor 16 = .ok (.invokevirtual 89, 3) := by decide +kernel
theorem dX7_steamFor_19 : decode cX7_steamFor 19 = .ok (.ireturn, 1) := by decide +kernel
theorem dX7_steamFor_20 : decode cX7_steamFor 20 = .ok (.aload_n 0, 1) := by decide +kernel
theorem dX7_steamFor_21 : decode cX7_steamFor 21 = .ok (.getfield 41, 3) := by decide +kernel
theorem dX7_steamFor_24 : decode cX7_steamFor 24 = .ok (.iload_n 1, 1) := by decide +kernel
theorem dX7_steamFor_25 : decode cX7_steamFor 25 = .ok (.iload_n 2, 1) := by decide +kernel
theorem dX7_steamFor_26 : decode cX7_steamFor 26 = .ok (.invokevirtual 220, 3) := by decide +kernel
theorem dX7_steamFor_29 : decode cX7_steamFor 29 = .ok (.istore_n 3, 1) := by decide +kernel
theorem dX7_steamFor_30 : decode cX7_steamFor 30 = .ok (.iload_n 3, 1) := by decide +kernel
theorem dX7_steamFor_31 : decode cX7_steamFor 31 = .ok (.ifCond .ge 11, 3) := by decide +kernel
theorem dX7_steamFor_34 : decode cX7_steamFor 34 = .ok (.aload_n 0, 1) := by decide +kernel
theorem dX7_steamFor_35 : decode cX7_steamFor 35 = .ok (.iconst 3, 1) := by decide +kernel
theorem dX7_steamFor_36 : decode cX7_steamFor 36 = .ok (.invokevirtual 89, 3) := by decide +kernel
theorem dX7_steamFor_39 : decode cX7_steamFor 39 = .ok (.goto 4, 3) := by decide +kernel
theorem dX7_steamFor_42 : decode cX7_steamFor 42 = .ok (.iload_n 3, 1) := by decide +kernel
theorem dX7_steamFor_43 : decode cX7_steamFor 43 = .ok (.ireturn, 1) := by decide +kernel
set_option maxRecDepth 20000 in
theorem ggX7_row_X5_cheapestRow : GoodIn wsX7_row wsX5_cheapestRow := goodIn_r _ [6, 7, 8, 9, 10, 5, 11, 12, 13, 14, 15, 16, 17, 18, 19, 20, 21, 22, 23, 24, 25, 26, 27, 28, 29, 30, 31, 32, 33, 34, 35, 36, 37, 58, 59, 60, 61, 62, 63, 64, 65, 66, 67, 68, 69, 70, 71, 72, 73] (by decide +kernel) (by decide +kernel)
set_option maxRecDepth 20000 in
theorem gX7_row_X5_cheapestRow : GoodIn wsX7_row (wsV RX7 223 RX5 yX5_cheapestRow wsX5_cheapestRow) := goodIn_app (goodIn_of _ (by decide +kernel)) ggX7_row_X5_cheapestRow
set_option maxRecDepth 20000 in
theorem ggX7_row_X7_finding : GoodIn wsX7_row wsX7_finding := goodIn_r _ [42, 43, 44, 45, 46, 47, 48, 49, 50, 51, 52, 53, 54, 55, 56, 57] (by decide +kernel) (by decide +kernel)
set_option maxRecDepth 20000 in
theorem gX7_row_X7_finding : GoodIn wsX7_row (wsV RX7 89 RX7 yX7_finding wsX7_finding) := goodIn_app (goodIn_of _ (by decide +kernel)) ggX7_row_X7_finding
theorem dX7_row_0 : decode cX7_row 0 = .ok (.aload_n 0, 1) := by decide +kernel
theorem dX7_row_1 : decode cX7_row 1 = .ok (.getfield 41, 3) := by decide +kernel
theorem dX7_row_4 : decode cX7_row 4 = .ok (.invokevirtual 223, 3) := by decide +kernel
theorem dX7_row_7 : decode cX7_row 7 = .ok (.istore_n 1, 1) := by decide +kernel
theorem dX7_row_8 : decode cX7_row 8 = .ok (.iload_n 1, 1) := by decide +kernel
theorem dX7_row_9 : decode cX7_row 9 = .ok (.ifCond .ge 11, 3) := by decide +kernel
theorem dX7_row_12 : decode cX7_row 12 = .ok (.aload_n 0, 1) := by decide +kernel
theorem dX7_row_13 : decode cX7_row 13 = .ok (.iconst 3, 1) := by decide +kernel
theorem dX7_row_14 : decode cX7_row 14 = .ok (.invokevirtual 89, 3) := by decide +kernel
theorem dX7_row_17 : decode cX7_row 17 = .ok (.goto 4, 3) := by decide +kernel
theorem dX7_row_20 : decode cX7_row 20 = .ok (.iload_n 1, 1) := by decide +kernel
theorem dX7_row_21 : decode cX7_row 21 = .ok (.ireturn, 1) := by decide +kernel
set_option maxRecDepth 20000 in
theorem ggX7_post_X7_isGuard : GoodIn wsX7_post wsX7_isGuard := goodIn_r _ [5, 6, 7, 4, 8] (by decide +kernel) (by decide +kernel)
set_option maxRecDepth 20000 in
theorem gX7_post_X7_isGuard : GoodIn wsX7_post (va_wsS RX7 109 yX7_isGuard wsX7_isGuard) := goodIn_app (goodIn_of _ (by decide +kernel)) ggX7_post_X7_isGuard
set_option maxRecDepth 20000 in
theorem ggX7_post_X7_finding : GoodIn wsX7_post wsX7_finding := goodIn_r _ [12, 13, 14, 47, 48, 49, 50, 51, 52, 53, 54, 55, 56, 57, 58, 59] (by decide +kernel) (by decide +kernel)
set_option maxRecDepth 20000 in
theorem gX7_post_X7_finding : GoodIn wsX7_post (wsV RX7 89 RX7 yX7_finding wsX7_finding) := goodIn_app (goodIn_of _ (by decide +kernel)) ggX7_post_X7_finding
set_option maxRecDepth 20000 in
theorem ggX7_post_X6_bestPost : GoodIn wsX7_post wsX6_bestPost := goodIn_r _ [19, 20, 21, 22, 23, 18, 24, 25, 26, 27, 28, 29, 30, 31, 32, 33, 34, 35, 36, 37, 38, 39, 40, 41, 42, 43, 44, 45, 46, 60, 61, 62, 63, 64, 65, 66, 67, 68, 69, 70, 71, 72, 73] (by decide +kernel) (by decide +kernel)
set_option maxRecDepth 20000 in
theorem gX7_post_X6_bestPost : GoodIn wsX7_post (wsV RX7 226 RX6 yX6_bestPost wsX6_bestPost) := goodIn_app (goodIn_of _ (by decide +kernel)) ggX7_post_X6_bestPost
theorem dX7_post_0 : decode cX7_post 0 = .ok (.iload_n 1, 1) := by decide +kernel
theorem dX7_post_1 : decode cX7_post 1 = .ok (.invokestatic 109, 3) := by decide +kernel
theorem dX7_post_4 : decode cX7_post 4 = .ok (.ifCond .ne 9, 3) := by decide +kernel
theorem dX7_post_7 : decode cX7_post 7 = .ok (.aload_n 0, 1) := by decide +kernel
theorem dX7_post_8 : decode cX7_post 8 = .ok (.iconst 0, 1) := by decide +kernel
theorem dX7_post_9 : decode cX7_post 9 = .ok (.invokevirtual 89, 3) := by decide +kernel
theorem dX7_post_12 : decode cX7_post 12 = .ok (.ireturn, 1) := by decide +kernel
theorem dX7_post_13 : decode cX7_post 13 = .ok (.aload_n 0, 1) := by decide +kernel
theorem dX7_post_14 : decode cX7_post 14 = .ok (.getfield 10, 3) := by decide +kernel
theorem dX7_post_17 : decode cX7_post 17 = .ok (.invokevirtual 226, 3) := by decide +kernel
theorem dX7_post_20 : decode cX7_post 20 = .ok (.ireturn, 1) := by decide +kernel
set_option maxRecDepth 20000 in
theorem ggX7_posted_X7_isGuard : GoodIn wsX7_posted wsX7_isGuard := goodIn_r _ [6, 7, 8, 5, 9] (by decide +kernel) (by decide +kernel)
set_option maxRecDepth 20000 in
theorem gX7_posted_X7_isGuard : GoodIn wsX7_posted (va_wsS RX7 109 yX7_isGuard wsX7_isGuard) := goodIn_app (goodIn_of _ (by decide +kernel)) ggX7_posted_X7_isGuard
set_option maxRecDepth 20000 in
theorem ggX7_posted_X7_finding : GoodIn wsX7_posted wsX7_finding := goodIn_r _ [13, 14, 15, 50, 51, 52, 53, 54, 55, 56, 57, 58, 59, 60, 61, 62] (by decide +kernel) (by decide +kernel)
set_option maxRecDepth 20000 in
theorem gX7_posted_X7_finding : GoodIn wsX7_posted (wsV RX7 89 RX7 yX7_finding wsX7_finding) := goodIn_app (goodIn_of _ (by decide +kernel)) ggX7_posted_X7_finding
set_option maxRecDepth 20000 in
theorem ggX7_posted_X6_bestPost : GoodIn wsX7_posted wsX6_bestPost := goodIn_r _ [20, 21, 22, 23, 24, 19, 25, 26, 27, 28, 29, 30, 31, 32, 33, 34, 35, 36, 37, 38, 39, 40, 41, 42, 43, 44, 45, 46, 47, 63, 64, 65, 66, 67, 68, 69, 70, 71, 72, 73, 74, 75, 76] (by decide +kernel) (by decide +kernel)
set_option maxRecDepth 20000 in
theorem gX7_posted_X6_bestPost : GoodIn wsX7_posted (wsV RX7 226 RX6 yX6_bestPost wsX6_bestPost) := goodIn_app (goodIn_of _ (by decide +kernel)) ggX7_posted_X6_bestPost
set_option maxRecDepth 20000 in
theorem ggX7_posted_X6_seenFrom : GoodIn wsX7_posted wsX6_seenFrom := goodIn_r _ [25, 26, 27, 28, 29, 30, 31, 32, 33, 34, 35, 36, 37, 38, 39, 40, 63, 64, 65, 66, 67, 68, 69, 70, 71, 72, 73, 74, 75, 76] (by decide +kernel) (by decide +kernel)
set_option maxRecDepth 20000 in
theorem gX7_posted_X6_seenFrom : GoodIn wsX7_posted (wsV RX7 229 RX6 yX6_seenFrom wsX6_seenFrom) := goodIn_app (goodIn_of _ (by decide +kernel)) ggX7_posted_X6_seenFrom
set_option maxRecDepth 20000 in
theorem ggX7_posted_J13_bitCount_95d88 : GoodIn wsX7_posted wsJ13_bitCount_95d88 := goodIn_r _ [44, 45, 46, 47] (by decide +kernel) (by decide +kernel)
set_option maxRecDepth 20000 in
theorem gX7_posted_J13_bitCount_95d88 : GoodIn wsX7_posted (va_wsS RX7 184 yJ13_bitCount_95d88 wsJ13_bitCount_95d88) := goodIn_app (goodIn_of _ (by decide +kernel)) ggX7_posted_J13_bitCount_95d88
theorem dX7_posted_0 : decode cX7_posted 0 = .ok (.iload_n 1, 1) := by decide +kernel
theorem dX7_posted_1 : decode cX7_posted 1 = .ok (.invokestatic 109, 3) := by decide +kernel
theorem dX7_posted_4 : decode cX7_posted 4 = .ok (.ifCond .ne 9, 3) := by decide +kernel
theorem dX7_posted_7 : decode cX7_posted 7 = .ok (.aload_n 0, 1) := by decide +kernel
theorem dX7_posted_8 : decode cX7_posted 8 = .ok (.iconst 0, 1) := by decide +kernel
theorem dX7_posted_9 : decode cX7_posted 9 = .ok (.invokevirtual 89, 3) := by decide +kernel
theorem dX7_posted_12 : decode cX7_posted 12 = .ok (.ireturn, 1) := by decide +kernel
theorem dX7_posted_13 : decode cX7_posted 13 = .ok (.aload_n 0, 1) := by decide +kernel
theorem dX7_posted_14 : decode cX7_posted 14 = .ok (.getfield 10, 3) := by decide +kernel
theorem dX7_posted_17 : decode cX7_posted 17 = .ok (.aload_n 0, 1) := by decide +kernel
theorem dX7_posted_18 : decode cX7_posted 18 = .ok (.getfield 10, 3) := by decide +kernel
theorem dX7_posted_21 : decode cX7_posted 21 = .ok (.invokevirtual 226, 3) := by decide +kernel
theorem dX7_posted_24 : decode cX7_posted 24 = .ok (.aload_n 0, 1) := by decide +kernel
theorem dX7_posted_25 : decode cX7_posted 25 = .ok (.getfield 10, 3) := by decide +kernel
theorem dX7_posted_28 : decode cX7_posted 28 = .ok (.getfield 115, 3) := by decide +kernel
theorem dX7_posted_31 : decode cX7_posted 31 = .ok (.invokevirtual 229, 3) := by decide +kernel
theorem dX7_posted_34 : decode cX7_posted 34 = .ok (.invokestatic 184, 3) := by decide +kernel
theorem dX7_posted_37 : decode cX7_posted 37 = .ok (.ireturn, 1) := by decide +kernel
set_option maxRecDepth 20000 in
theorem ggX7_trap_X7_isGuard : GoodIn wsX7_trap wsX7_isGuard := goodIn_r _ [7, 8, 9, 6, 10] (by decide +kernel) (by decide +kernel)
set_option maxRecDepth 20000 in
theorem gX7_trap_X7_isGuard : GoodIn wsX7_trap (va_wsS RX7 109 yX7_isGuard wsX7_isGuard) := goodIn_app (goodIn_of _ (by decide +kernel)) ggX7_trap_X7_isGuard
set_option maxRecDepth 20000 in
theorem ggX7_trap_X7_isBather : GoodIn wsX7_trap wsX7_isBather := goodIn_r _ [14, 1, 15, 8, 9, 6, 10, 119, 120, 121, 122, 123, 124, 125, 126, 127, 128, 129, 130, 131, 132, 133, 134, 135, 136, 137, 138, 139, 140, 141, 142, 143, 144, 145] (by decide +kernel) (by decide +kernel)
set_option maxRecDepth 20000 in
theorem gX7_trap_X7_isBather : GoodIn wsX7_trap (wsV RX7 129 RX7 yX7_isBather wsX7_isBather) := goodIn_app (goodIn_of _ (by decide +kernel)) ggX7_trap_X7_isBather
set_option maxRecDepth 20000 in
theorem ggX7_trap_X7_finding : GoodIn wsX7_trap wsX7_finding := goodIn_r _ [19, 20, 21, 119, 120, 121, 122, 123, 124, 125, 126, 127, 128, 129, 130, 131] (by decide +kernel) (by decide +kernel)
set_option maxRecDepth 20000 in
theorem gX7_trap_X7_finding : GoodIn wsX7_trap (wsV RX7 89 RX7 yX7_finding wsX7_finding) := goodIn_app (goodIn_of _ (by decide +kernel)) ggX7_trap_X7_finding
set_option maxRecDepth 20000 in
theorem ggX7_trap_X6_seenByOthers : GoodIn wsX7_trap wsX6_seenByOthers := goodIn_r _ [26, 27, 28, 29, 30, 31, 25, 32, 33, 34, 35, 36, 37, 38, 39, 40, 41, 42, 43, 44, 45, 46, 47, 132, 133, 134, 135, 136, 137, 138, 139, 140, 141, 142, 143, 144, 145] (by decide +kernel) (by decide +kernel)
set_option maxRecDepth 20000 in
theorem gX7_trap_X6_seenByOthers : GoodIn wsX7_trap (wsV RX7 233 RX6 yX6_seenByOthers wsX6_seenByOthers) := goodIn_app (goodIn_of _ (by decide +kernel)) ggX7_trap_X6_seenByOthers
set_option maxRecDepth 20000 in
theorem ggX7_trap_X4_take : GoodIn wsX7_trap wsX4_take := goodIn_r _ [52, 53, 54, 55, 56, 57, 58, 59, 60, 61, 146, 147, 148, 149, 150, 132, 133, 134, 135, 136, 137, 138, 139, 140, 141, 142, 143, 144, 145] (by decide +kernel) (by decide +kernel)
set_option maxRecDepth 20000 in
theorem gX7_trap_X4_take : GoodIn wsX7_trap (wsV RX7 147 RX4 yX4_take wsX4_take) := goodIn_app (goodIn_of _ (by decide +kernel)) ggX7_trap_X4_take
set_option maxRecDepth 20000 in
theorem ggX7_trap_X6_seenFrom : GoodIn wsX7_trap wsX6_seenFrom := goodIn_r _ [32, 33, 34, 35, 36, 37, 38, 39, 40, 41, 42, 43, 44, 45, 46, 47, 132, 133, 134, 135, 136, 137, 138, 139, 140, 141, 142, 143, 144, 145] (by decide +kernel) (by decide +kernel)
set_option maxRecDepth 20000 in
theorem gX7_trap_X6_seenFrom : GoodIn wsX7_trap (wsV RX7 229 RX6 yX6_seenFrom wsX6_seenFrom) := goodIn_app (goodIn_of _ (by decide +kernel)) ggX7_trap_X6_seenFrom
set_option maxRecDepth 20000 in
theorem ggX7_trap_X4_minutesTillSeen : GoodIn wsX7_trap wsX4_minutesTillSeen := goodIn_r _ [66, 67, 68, 69, 51, 70, 57, 71, 72, 36, 73, 74, 75, 76, 77, 78, 79, 80, 81, 82, 83, 84, 55, 59, 61, 85, 86, 40, 87, 88, 46, 47, 89, 90, 91, 92, 93, 94, 95, 96, 97, 98, 99, 100, 101, 102, 103, 104, 105, 106, 107, 108, 109, 42, 43, 44, 45, 110, 111, 112, 113, 53, 114, 115, 116, 117, 118, 146, 147, 148, 149, 150, 132, 133, 134, 135, 136, 137, 138, 139, 140, 141, 142, 143, 144, 145] (by decide +kernel) (by decide +kernel)
set_option maxRecDepth 20000 in
theorem gX7_trap_X4_minutesTillSeen : GoodIn wsX7_trap (wsV RX7 199 RX4 yX4_minutesTillSeen wsX4_minutesTillSeen) := goodIn_app (goodIn_of _ (by decide +kernel)) ggX7_trap_X4_minutesTillSeen
theorem dX7_trap_0 : decode cX7_trap 0 = .ok (.iload_n 1, 1) := by decide +kernel
theorem dX7_trap_1 : decode cX7_trap 1 = .ok (.invokestatic 109, 3) := by decide +kernel
theorem dX7_trap_4 : decode cX7_trap 4 = .ok (.ifCond .eq 11, 3) := by decide +kernel
theorem dX7_trap_7 : decode cX7_trap 7 = .ok (.aload_n 0, 1) := by decide +kernel
theorem dX7_trap_8 : decode cX7_trap 8 = .ok (.iload_n 2, 1) := by decide +kernel
theorem dX7_trap_9 : decode cX7_trap 9 = .ok (.invokevirtual 129, 3) := by decide +kernel
theorem dX7_trap_12 : decode cX7_trap 12 = .ok (.ifCond .ne 9, 3) := by decide +kernel
theorem dX7_trap_15 : decode cX7_trap 15 = .ok (.aload_n 0, 1) := by decide +kernel
theorem dX7_trap_16 : decode cX7_trap 16 = .ok (.iconst 0, 1) := by decide +kernel
theorem dX7_trap_17 : decode cX7_trap 17 = .ok (.invokevirtual 89, 3) := by decide +kernel
theorem dX7_trap_20 : decode cX7_trap 20 = .ok (.ireturn, 1) := by decide +kernel
theorem dX7_trap_21 : decode cX7_trap 21 = .ok (.aload_n 0, 1) := by decide +kernel
theorem dX7_trap_22 : decode cX7_trap 22 = .ok (.getfield 10, 3) := by decide +kernel
theorem dX7_trap_25 : decode cX7_trap 25 = .ok (.iload_n 1, 1) := by decide +kernel
theorem dX7_trap_26 : decode cX7_trap 26 = .ok (.invokevirtual 233, 3) := by decide +kernel
theorem dX7_trap_29 : decode cX7_trap 29 = .ok (.lstore_n 3, 1) := by decide +kernel
theorem dX7_trap_30 : decode cX7_trap 30 = .ok (.iconst (-1), 1) := by decide +kernel
theorem dX7_trap_31 : decode cX7_trap 31 = .ok (.istore 5, 2) := by decide +kernel
theorem dX7_trap_33 : decode cX7_trap 33 = .ok (.bipush 101, 2) := by decide +kernel
theorem dX7_trap_35 : decode cX7_trap 35 = .ok (.istore 6, 2) := by decide +kernel
theorem dX7_trap_37 : decode cX7_trap 37 = .ok (.iconst 0, 1) := by decide +kernel
theorem dX7_trap_38 : decode cX7_trap 38 = .ok (.istore 7, 2) := by decide +kernel
theorem dX7_trap_40 : decode cX7_trap 40 = .ok (.iload 7, 2) := by decide +kernel
theorem dX7_trap_42 : decode cX7_trap 42 = .ok (.bipush 48, 2) := by decide +kernel
theorem dX7_trap_44 : decode cX7_trap 44 = .ok (.if_icmp .ge 66, 3) := by decide +kernel
theorem dX7_trap_47 : decode cX7_trap 47 = .ok (.iload 6, 2) := by decide +kernel
theorem dX7_trap_49 : decode cX7_trap 49 = .ok (.ifCond .le 61, 3) := by decide +kernel
theorem dX7_trap_52 : decode cX7_trap 52 = .ok (.aload_n 0, 1) := by decide +kernel
theorem dX7_trap_53 : decode cX7_trap 53 = .ok (.getfield 31, 3) := by decide +kernel
theorem dX7_trap_56 : decode cX7_trap 56 = .ok (.iload_n 2, 1) := by decide +kernel
theorem dX7_trap_57 : decode cX7_trap 57 = .ok (.invokevirtual 147, 3) := by decide +kernel
theorem dX7_trap_60 : decode cX7_trap 60 = .ok (.aload_n 0, 1) := by decide +kernel
theorem dX7_trap_61 : decode cX7_trap 61 = .ok (.getfield 31, 3) := by decide +kernel
theorem dX7_trap_64 : decode cX7_trap 64 = .ok (.lload_n 3, 1) := by decide +kernel
theorem dX7_trap_65 : decode cX7_trap 65 = .ok (.aload_n 0, 1) := by decide +kernel
theorem dX7_trap_66 : decode cX7_trap 66 = .ok (.getfield 10, 3) := by decide +kernel
theorem dX7_trap_69 : decode cX7_trap 69 = .ok (.iload 7, 2) := by decide +kernel
theorem dX7_trap_71 : decode cX7_trap 71 = .ok (.aload_n 0, 1) := by decide +kernel
theorem dX7_trap_72 : decode cX7_trap 72 = .ok (.getfield 10, 3) := by decide +kernel
theorem dX7_trap_75 : decode cX7_trap 75 = .ok (.getfield 115, 3) := by decide +kernel
theorem dX7_trap_78 : decode cX7_trap 78 = .ok (.invokevirtual 229, 3) := by decide +kernel
theorem dX7_trap_81 : decode cX7_trap 81 = .ok (.lor, 1) := by decide +kernel
theorem dX7_trap_82 : decode cX7_trap 82 = .ok (.iload 6, 2) := by decide +kernel
theorem dX7_trap_84 : decode cX7_trap 84 = .ok (.iconst 1, 1) := by decide +kernel
theorem dX7_trap_85 : decode cX7_trap 85 = .ok (.isub, 1) := by decide +kernel
theorem dX7_trap_86 : decode cX7_trap 86 = .ok (.invokevirtual 199, 3) := by decide +kernel
theorem dX7_trap_89 : decode cX7_trap 89 = .ok (.istore 8, 2) := by decide +kernel
theorem dX7_trap_91 : decode cX7_trap 91 = .ok (.iload 8, 2) := by decide +kernel
theorem dX7_trap_93 : decode cX7_trap 93 = .ok (.ifCond .lt 11, 3) := by decide +kernel
theorem dX7_trap_96 : decode cX7_trap 96 = .ok (.iload 7, 2) := by decide +kernel
theorem dX7_trap_98 : decode cX7_trap 98 = .ok (.istore 5, 2) := by decide +kernel
theorem dX7_trap_100 : decode cX7_trap 100 = .ok (.iload 8, 2) := by decide +kernel
theorem dX7_trap_102 : decode cX7_trap 102 = .ok (.istore 6, 2) := by decide +kernel
theorem dX7_trap_104 : decode cX7_trap 104 = .ok (.iinc 7 1, 3) := by decide +kernel
theorem dX7_trap_107 : decode cX7_trap 107 = .ok (.goto (-67), 3) := by decide +kernel
theorem dX7_trap_110 : decode cX7_trap 110 = .ok (.iload 5, 2) := by decide +kernel
theorem dX7_trap_112 : decode cX7_trap 112 = .ok (.ifCond .ge 11, 3) := by decide +kernel
theorem dX7_trap_115 : decode cX7_trap 115 = .ok (.aload_n 0, 1) := by decide +kernel
theorem dX7_trap_116 : decode cX7_trap 116 = .ok (.iconst 3, 1) := by decide +kernel
theorem dX7_trap_117 : decode cX7_trap 117 = .ok (.invokevirtual 89, 3) := by decide +kernel
theorem dX7_trap_120 : decode cX7_trap 120 = .ok (.goto 5, 3) := by decide +kernel
theorem dX7_trap_123 : decode cX7_trap 123 = .ok (.iload 5, 2) := by decide +kernel
theorem dX7_trap_125 : decode cX7_trap 125 = .ok (.ireturn, 1) := by decide +kernel
set_option maxRecDepth 20000 in
theorem ggX7_enough_X6_seenFrom : GoodIn wsX7_enough wsX6_seenFrom := goodIn_r _ [9, 10, 11, 12, 13, 14, 15, 16, 17, 18, 19, 20, 21, 22, 23, 24, 50, 51, 52, 53, 54, 55, 56, 57, 58, 59, 60, 61, 62, 63] (by decide +kernel) (by decide +kernel)
set_option maxRecDepth 20000 in
theorem gX7_enough_X6_seenFrom : GoodIn wsX7_enough (wsV RX7 229 RX6 yX6_seenFrom wsX6_seenFrom) := goodIn_app (goodIn_of _ (by decide +kernel)) ggX7_enough_X6_seenFrom
set_option maxRecDepth 20000 in
theorem ggX7_enough_X7_seenTogether : GoodIn wsX7_enough wsX7_seenTogether := goodIn_r _ [29, 1, 37, 38, 39, 40, 41, 42, 43, 44, 45, 46, 47, 48, 49] (by decide +kernel) (by decide +kernel)
set_option maxRecDepth 20000 in
theorem gX7_enough_X7_seenTogether : GoodIn wsX7_enough (wsV RX7 236 RX7 yX7_seenTogether wsX7_seenTogether) := goodIn_app (goodIn_of _ (by decide +kernel)) ggX7_enough_X7_seenTogether
set_option maxRecDepth 20000 in
theorem ggX7_enough_J6_bitCount_0f7a4 : GoodIn wsX7_enough wsJ6_bitCount_0f7a4 := goodIn_r _ [33, 34, 35, 36] (by decide +kernel) (by decide +kernel)
set_option maxRecDepth 20000 in
theorem gX7_enough_J6_bitCount_0f7a4 : GoodIn wsX7_enough (va_wsS RX7 239 yJ6_bitCount_0f7a4 wsJ6_bitCount_0f7a4) := goodIn_app (goodIn_of _ (by decide +kernel)) ggX7_enough_J6_bitCount_0f7a4
theorem dX7_enough_0 : decode cX7_enough 0 = .ok (.iconst 0, 1) := by decide +kernel
theorem dX7_enough_1 : decode cX7_enough 1 = .ok (.istore_n 1, 1) := by decide +kernel
theorem dX7_enough_2 : decode cX7_enough 2 = .ok (.iload_n 1, 1) := by decide +kernel
theorem dX7_enough_3 : decode cX7_enough 3 = .ok (.iconst 4, 1) := by decide +kernel
theorem dX7_enough_4 : decode cX7_enough 4 = .ok (.if_icmp .ge 38, 3) := by decide +kernel
theorem dX7_enough_7 : decode cX7_enough 7 = .ok (.aload_n 0, 1) := by decide +kernel
theorem dX7_enough_8 : decode cX7_enough 8 = .ok (.getfield 72, 3) := by decide +kernel
theorem dX7_enough_11 : decode cX7_enough 11 = .ok (.iload_n 1, 1) := by decide +kernel
theorem dX7_enough_12 : decode cX7_enough 12 = .ok (.aload_n 0, 1) := by decide +kernel
theorem dX7_enough_13 : decode cX7_enough 13 = .ok (.getfield 10, 3) := by decide +kernel
theorem dX7_enough_16 : decode cX7_enough 16 = .ok (.aload_n 0, 1) := by decide +kernel
theorem dX7_enough_17 : decode cX7_enough 17 = .ok (.getfield 10, 3) := by decide +kernel
theorem dX7_enough_20 : decode cX7_enough 20 = .ok (.getfield 112, 3) := by decide +kernel
theorem dX7_enough_23 : decode cX7_enough 23 = .ok (.iload_n 1, 1) := by decide +kernel
theorem dX7_enough_24 : decode cX7_enough 24 = .ok (.iaload, 1) := by decide +kernel
theorem dX7_enough_25 : decode cX7_enough 25 = .ok (.aload_n 0, 1) := by decide +kernel
theorem dX7_enough_26 : decode cX7_enough 26 = .ok (.getfield 10, 3) := by decide +kernel
theorem dX7_enough_29 : decode cX7_enough 29 = .ok (.getfield 115, 3) := by decide +kernel
theorem dX7_enough_32 : decode cX7_enough 32 = .ok (.invokevirtual 229, 3) := by decide +kernel
theorem dX7_enough_35 : decode cX7_enough 35 = .ok (.lastore, 1) := by decide +kernel
theorem dX7_enough_36 : decode cX7_enough 36 = .ok (.iinc 1 1, 3) := by decide +kernel
theorem dX7_enough_39 : decode cX7_enough 39 = .ok (.goto (-37), 3) := by decide +kernel
theorem dX7_enough_42 : decode cX7_enough 42 = .ok (.bipush 15, 2) := by decide +kernel
theorem dX7_enough_44 : decode cX7_enough 44 = .ok (.istore_n 1, 1) := by decide +kernel
theorem dX7_enough_45 : decode cX7_enough 45 = .ok (.aload_n 0, 1) := by decide +kernel
theorem dX7_enough_46 : decode cX7_enough 46 = .ok (.iload_n 1, 1) := by decide +kernel
theorem dX7_enough_47 : decode cX7_enough 47 = .ok (.invokevirtual 236, 3) := by decide +kernel
theorem dX7_enough_50 : decode cX7_enough 50 = .ok (.lstore_n 2, 1) := by decide +kernel
theorem dX7_enough_51 : decode cX7_enough 51 = .ok (.iload_n 1, 1) := by decide +kernel
theorem dX7_enough_52 : decode cX7_enough 52 = .ok (.istore 4, 2) := by decide +kernel
theorem dX7_enough_54 : decode cX7_enough 54 = .ok (.iconst 0, 1) := by decide +kernel
theorem dX7_enough_55 : decode cX7_enough 55 = .ok (.istore 5, 2) := by decide +kernel
theorem dX7_enough_57 : decode cX7_enough 57 = .ok (.iload 5, 2) := by decide +kernel
theorem dX7_enough_59 : decode cX7_enough 59 = .ok (.iload_n 1, 1) := by decide +kernel
theorem dX7_enough_60 : decode cX7_enough 60 = .ok (.if_icmp .ge 37, 3) := by decide +kernel
theorem dX7_enough_63 : decode cX7_enough 63 = .ok (.iload 5, 2) := by decide +kernel
theorem dX7_enough_65 : decode cX7_enough 65 = .ok (.invokestatic 239, 3) := by decide +kernel
theorem dX7_enough_68 : decode cX7_enough 68 = .ok (.iload 4, 2) := by decide +kernel
theorem dX7_enough_70 : decode cX7_enough 70 = .ok (.invokestatic 239, 3) := by decide +kernel
theorem dX7_enough_73 : decode cX7_enough 73 = .ok (.if_icmp .ge 18, 3) := by decide +kernel
theorem dX7_enough_76 : decode cX7_enough 76 = .ok (.aload_n 0, 1) := by decide +kernel
theorem dX7_enough_77 : decode cX7_enough 77 = .ok (.iload 5, 2) := by decide +kernel
theorem dX7_enough_79 : decode cX7_enough 79 = .ok (.invokevirtual 236, 3) := by decide +kernel
theorem dX7_enough_82 : decode cX7_enough 82 = .ok (.lload_n 2, 1) := by decide +kernel
theorem dX7_enough_83 : decode cX7_enough 83 = .ok (.lcmp, 1) := by decide +kernel
theorem dX7_enough_84 : decode cX7_enough 84 = .ok (.ifCond .ne 7, 3) := by decide +kernel
theorem dX7_enough_87 : decode cX7_enough 87 = .ok (.iload 5, 2) := by decide +kernel
theorem dX7_enough_89 : decode cX7_enough 89 = .ok (.istore 4, 2) := by decide +kernel
theorem dX7_enough_91 : decode cX7_enough 91 = .ok (.iinc 5 1, 3) := by decide +kernel
theorem dX7_enough_94 : decode cX7_enough 94 = .ok (.goto (-37), 3) := by decide +kernel
theorem dX7_enough_97 : decode cX7_enough 97 = .ok (.iload 4, 2) := by decide +kernel
theorem dX7_enough_99 : decode cX7_enough 99 = .ok (.ireturn, 1) := by decide +kernel
set_option maxRecDepth 20000 in
theorem ggX7_fits_X7_isSheet : GoodIn wsX7_fits wsX7_isSheet := goodIn_r _ [9, 10, 11, 8, 12] (by decide +kernel) (by decide +kernel)
set_option maxRecDepth 20000 in
theorem gX7_fits_X7_isSheet : GoodIn wsX7_fits (va_wsS RX7 243 yX7_isSheet wsX7_isSheet) := goodIn_app (goodIn_of _ (by decide +kernel)) ggX7_fits_X7_isSheet
set_option maxRecDepth 20000 in
theorem ggX7_fits_X7_finding : GoodIn wsX7_fits wsX7_finding := goodIn_r _ [16, 17, 18, 118, 119, 120, 121, 122, 123, 124, 125, 126, 127, 128, 129, 130] (by decide +kernel) (by decide +kernel)
set_option maxRecDepth 20000 in
theorem gX7_fits_X7_finding : GoodIn wsX7_fits (wsV RX7 89 RX7 yX7_finding wsX7_finding) := goodIn_app (goodIn_of _ (by decide +kernel)) ggX7_fits_X7_finding
set_option maxRecDepth 20000 in
theorem ggX7_fits_X1_isMissing : GoodIn wsX7_fits wsX1_isMissing := goodIn_r _ [23, 24, 145, 146, 147] (by decide +kernel) (by decide +kernel)
set_option maxRecDepth 20000 in
theorem gX7_fits_X1_isMissing : GoodIn wsX7_fits (wsV RX7 246 RX1 yX1_isMissing wsX1_isMissing) := goodIn_app (goodIn_of _ (by decide +kernel)) ggX7_fits_X1_isMissing
set_option maxRecDepth 20000 in
theorem ggX7_fits_X6_seenCells : GoodIn wsX7_fits wsX6_seenCells := goodIn_r _ [29, 30, 31, 32, 33, 28, 34, 35, 36, 37, 38, 39, 40, 41, 42, 43, 44, 45, 46, 47, 48, 49, 131, 132, 133, 134, 135, 136, 137, 138, 139, 140, 141, 142, 143, 144] (by decide +kernel) (by decide +kernel)
set_option maxRecDepth 20000 in
theorem gX7_fits_X6_seenCells : GoodIn wsX7_fits (wsV RX7 151 RX6 yX6_seenCells wsX6_seenCells) := goodIn_app (goodIn_of _ (by decide +kernel)) ggX7_fits_X6_seenCells
set_option maxRecDepth 20000 in
theorem ggX7_fits_X4_take : GoodIn wsX7_fits wsX4_take := goodIn_r _ [54, 55, 56, 57, 58, 59, 60, 61, 62, 63, 148, 149, 150, 151, 152, 131, 132, 133, 134, 135, 136, 137, 138, 139, 140, 141, 142, 143, 144] (by decide +kernel) (by decide +kernel)
set_option maxRecDepth 20000 in
theorem gX7_fits_X4_take : GoodIn wsX7_fits (wsV RX7 147 RX4 yX4_take wsX4_take) := goodIn_app (goodIn_of _ (by decide +kernel)) ggX7_fits_X4_take
set_option maxRecDepth 20000 in
theorem ggX7_fits_X4_hasWrinkles : GoodIn wsX7_fits wsX4_hasWrinkles := goodIn_r _ [67, 68, 69, 63, 70, 71, 72, 53, 73, 57, 59, 61, 74, 75, 42, 76, 77, 78, 79, 80, 81, 82, 38, 83, 84, 48, 49, 85, 86, 87, 88, 89, 90, 91, 92, 93, 94, 95, 96, 97, 98, 99, 100, 101, 102, 103, 104, 105, 106, 107, 108, 44, 45, 46, 47, 109, 110, 111, 112, 55, 113, 114, 115, 116, 117, 145, 146, 147, 148, 149, 150, 151, 152, 131, 132, 133, 134, 135, 136, 137, 138, 139, 140, 141, 142, 143, 144] (by decide +kernel) (by decide +kernel)
set_option maxRecDepth 20000 in
theorem gX7_fits_X4_hasWrinkles : GoodIn wsX7_fits (wsV RX7 249 RX4 yX4_hasWrinkles wsX4_hasWrinkles) := goodIn_app (goodIn_of _ (by decide +kernel)) ggX7_fits_X4_hasWrinkles
theorem dX7_fits_0 : decode cX7_fits 0 = .ok (.iload_n 1, 1) := by decide +kernel
theorem dX7_fits_1 : decode cX7_fits 1 = .ok (.invokestatic 243, 3) := by decide +kernel
theorem dX7_fits_4 : decode cX7_fits 4 = .ok (.ifCond .ne 9, 3) := by decide +kernel
theorem dX7_fits_7 : decode cX7_fits 7 = .ok (.aload_n 0, 1) := by decide +kernel
theorem dX7_fits_8 : decode cX7_fits 8 = .ok (.iconst 0, 1) := by decide +kernel
theorem dX7_fits_9 : decode cX7_fits 9 = .ok (.invokevirtual 89, 3) := by decide +kernel
theorem dX7_fits_12 : decode cX7_fits 12 = .ok (.ireturn, 1) := by decide +kernel
theorem dX7_fits_13 : decode cX7_fits 13 = .ok (.aload_n 0, 1) := by decide +kernel
theorem dX7_fits_14 : decode cX7_fits 14 = .ok (.getfield 63, 3) := by decide +kernel
theorem dX7_fits_17 : decode cX7_fits 17 = .ok (.iload_n 1, 1) := by decide +kernel
theorem dX7_fits_18 : decode cX7_fits 18 = .ok (.aaload, 1) := by decide +kernel
theorem dX7_fits_19 : decode cX7_fits 19 = .ok (.invokevirtual 246, 3) := by decide +kernel
theorem dX7_fits_22 : decode cX7_fits 22 = .ok (.ifCond .eq 9, 3) := by decide +kernel
theorem dX7_fits_25 : decode cX7_fits 25 = .ok (.aload_n 0, 1) := by decide +kernel
theorem dX7_fits_26 : decode cX7_fits 26 = .ok (.iconst 5, 1) := by decide +kernel
theorem dX7_fits_27 : decode cX7_fits 27 = .ok (.invokevirtual 89, 3) := by decide +kernel
theorem dX7_fits_30 : decode cX7_fits 30 = .ok (.ireturn, 1) := by decide +kernel
theorem dX7_fits_31 : decode cX7_fits 31 = .ok (.aload_n 0, 1) := by decide +kernel
theorem dX7_fits_32 : decode cX7_fits 32 = .ok (.getfield 10, 3) := by decide +kernel
theorem dX7_fits_35 : decode cX7_fits 35 = .ok (.aload_n 0, 1) := by decide +kernel
theorem dX7_fits_36 : decode cX7_fits 36 = .ok (.getfield 10, 3) := by decide +kernel
theorem dX7_fits_39 : decode cX7_fits 39 = .ok (.getfield 115, 3) := by decide +kernel
theorem dX7_fits_42 : decode cX7_fits 42 = .ok (.invokevirtual 151, 3) := by decide +kernel
theorem dX7_fits_45 : decode cX7_fits 45 = .ok (.lstore_n 2, 1) := by decide +kernel
theorem dX7_fits_46 : decode cX7_fits 46 = .ok (.iconst 0, 1) := by decide +kernel
theorem dX7_fits_47 : decode cX7_fits 47 = .ok (.istore 4, 2) := by decide +kernel
theorem dX7_fits_49 : decode cX7_fits 49 = .ok (.iconst 0, 1) := by decide +kernel
theorem dX7_fits_50 : decode cX7_fits 50 = .ok (.istore 5, 2) := by decide +kernel
theorem dX7_fits_52 : decode cX7_fits 52 = .ok (.iload 5, 2) := by decide +kernel
theorem dX7_fits_54 : decode cX7_fits 54 = .ok (.aload_n 0, 1) := by decide +kernel
theorem dX7_fits_55 : decode cX7_fits 55 = .ok (.getfield 10, 3) := by decide +kernel
theorem dX7_fits_58 : decode cX7_fits 58 = .ok (.getfield 122, 3) := by decide +kernel
theorem dX7_fits_61 : decode cX7_fits 61 = .ok (.if_icmp .ge 44, 3) := by decide +kernel
theorem dX7_fits_64 : decode cX7_fits 64 = .ok (.aload_n 0, 1) := by decide +kernel
theorem dX7_fits_65 : decode cX7_fits 65 = .ok (.getfield 31, 3) := by decide +kernel
theorem dX7_fits_68 : decode cX7_fits 68 = .ok (.iload 5, 2) := by decide +kernel
theorem dX7_fits_70 : decode cX7_fits 70 = .ok (.invokevirtual 147, 3) := by decide +kernel
theorem dX7_fits_73 : decode cX7_fits 73 = .ok (.aload_n 0, 1) := by decide +kernel
theorem dX7_fits_74 : decode cX7_fits 74 = .ok (.getfield 31, 3) := by decide +kernel
theorem dX7_fits_77 : decode cX7_fits 77 = .ok (.aload_n 0, 1) := by decide +kernel
theorem dX7_fits_78 : decode cX7_fits 78 = .ok (.getfield 63, 3) := by decide +kernel
theorem dX7_fits_81 : decode cX7_fits 81 = .ok (.iload_n 1, 1) := by decide +kernel
theorem dX7_fits_82 : decode cX7_fits 82 = .ok (.aaload, 1) := by decide +kernel
theorem dX7_fits_83 : decode cX7_fits 83 = .ok (.lload_n 2, 1) := by decide +kernel
theorem dX7_fits_84 : decode cX7_fits 84 = .ok (.invokevirtual 249, 3) := by decide +kernel
theorem dX7_fits_87 : decode cX7_fits 87 = .ok (.ifCond .eq 12, 3) := by decide +kernel
theorem dX7_fits_90 : decode cX7_fits 90 = .ok (.iload 4, 2) := by decide +kernel
theorem dX7_fits_92 : decode cX7_fits 92 = .ok (.iconst 1, 1) := by decide +kernel
theorem dX7_fits_93 : decode cX7_fits 93 = .ok (.iload 5, 2) := by decide +kernel
theorem dX7_fits_95 : decode cX7_fits 95 = .ok (.ishl, 1) := by decide +kernel
theorem dX7_fits_96 : decode cX7_fits 96 = .ok (.ior, 1) := by decide +kernel
theorem dX7_fits_97 : decode cX7_fits 97 = .ok (.istore 4, 2) := by decide +kernel
theorem dX7_fits_99 : decode cX7_fits 99 = .ok (.iinc 5 1, 3) := by decide +kernel
theorem dX7_fits_102 : decode cX7_fits 102 = .ok (.goto (-50), 3) := by decide +kernel
theorem dX7_fits_105 : decode cX7_fits 105 = .ok (.iload 4, 2) := by decide +kernel
theorem dX7_fits_107 : decode cX7_fits 107 = .ok (.ireturn, 1) := by decide +kernel
set_option maxRecDepth 20000 in
theorem ggX7_swaps_X6_swapsToOrder : GoodIn wsX7_swaps wsX6_swapsToOrder := goodIn_r _ [6, 7, 8, 9, 10, 11, 5, 12, 33, 34, 35, 36, 37, 38, 39, 40, 41, 42, 43, 44, 45, 46] (by decide +kernel) (by decide +kernel)
set_option maxRecDepth 20000 in
theorem gX7_swaps_X6_swapsToOrder : GoodIn wsX7_swaps (wsV RX7 253 RX6 yX6_swapsToOrder wsX6_swapsToOrder) := goodIn_app (goodIn_of _ (by decide +kernel)) ggX7_swaps_X6_swapsToOrder
set_option maxRecDepth 20000 in
theorem ggX7_swaps_X7_finding : GoodIn wsX7_swaps wsX7_finding := goodIn_r _ [17, 18, 19, 20, 21, 22, 23, 24, 25, 26, 27, 28, 29, 30, 31, 32] (by decide +kernel) (by decide +kernel)
set_option maxRecDepth 20000 in
theorem gX7_swaps_X7_finding : GoodIn wsX7_swaps (wsV RX7 89 RX7 yX7_finding wsX7_finding) := goodIn_app (goodIn_of _ (by decide +kernel)) ggX7_swaps_X7_finding
theorem dX7_swaps_0 : decode cX7_swaps 0 = .ok (.aload_n 0, 1) := by decide +kernel
theorem dX7_swaps_1 : decode cX7_swaps 1 = .ok (.getfield 10, 3) := by decide +kernel
theorem dX7_swaps_4 : decode cX7_swaps 4 = .ok (.invokevirtual 253, 3) := by decide +kernel
theorem dX7_swaps_7 : decode cX7_swaps 7 = .ok (.istore_n 1, 1) := by decide +kernel
theorem dX7_swaps_8 : decode cX7_swaps 8 = .ok (.iload_n 1, 1) := by decide +kernel
theorem dX7_swaps_9 : decode cX7_swaps 9 = .ok (.ifCond .ge 11, 3) := by decide +kernel
theorem dX7_swaps_12 : decode cX7_swaps 12 = .ok (.aload_n 0, 1) := by decide +kernel
theorem dX7_swaps_13 : decode cX7_swaps 13 = .ok (.iconst 4, 1) := by decide +kernel
theorem dX7_swaps_14 : decode cX7_swaps 14 = .ok (.invokevirtual 89, 3) := by decide +kernel
theorem dX7_swaps_17 : decode cX7_swaps 17 = .ok (.goto 4, 3) := by decide +kernel
theorem dX7_swaps_20 : decode cX7_swaps 20 = .ok (.iload_n 1, 1) := by decide +kernel
theorem dX7_swaps_21 : decode cX7_swaps 21 = .ok (.ireturn, 1) := by decide +kernel
set_option maxRecDepth 20000 in
theorem ggX7_swap_X7_isBather : GoodIn wsX7_swap wsX7_isBather := goodIn_r _ [7, 1, 8, 9, 10, 6, 11, 21, 22, 23, 24, 25, 26, 27, 28, 29, 30, 31, 32, 33, 34, 35, 36, 37, 38, 39, 40, 41, 42, 43, 44, 45, 46, 47] (by decide +kernel) (by decide +kernel)
set_option maxRecDepth 20000 in
theorem gX7_swap_X7_isBather : GoodIn wsX7_swap (wsV RX7 129 RX7 yX7_isBather wsX7_isBather) := goodIn_app (goodIn_of _ (by decide +kernel)) ggX7_swap_X7_isBather
set_option maxRecDepth 20000 in
theorem ggX7_swap_X7_finding : GoodIn wsX7_swap wsX7_finding := goodIn_r _ [15, 16, 17, 21, 22, 23, 24, 25, 26, 27, 28, 29, 30, 31, 32, 33] (by decide +kernel) (by decide +kernel)
set_option maxRecDepth 20000 in
theorem gX7_swap_X7_finding : GoodIn wsX7_swap (wsV RX7 89 RX7 yX7_finding wsX7_finding) := goodIn_app (goodIn_of _ (by decide +kernel)) ggX7_swap_X7_finding
set_option maxRecDepth 20000 in
theorem ggX7_swap_X7_replace : GoodIn wsX7_swap wsX7_replace := goodIn_r _ [20] (by decide +kernel) (by decide +kernel)
set_option maxRecDepth 20000 in
theorem gX7_swap_X7_replace : GoodIn wsX7_swap (va_wsS RX7 99 yX7_replace wsX7_replace) := goodIn_app (goodIn_of _ (by decide +kernel)) ggX7_swap_X7_replace
theorem dX7_swap_0 : decode cX7_swap 0 = .ok (.aload_n 0, 1) := by decide +kernel
theorem dX7_swap_1 : decode cX7_swap 1 = .ok (.iload_n 1, 1) := by decide +kernel
theorem dX7_swap_2 : decode cX7_swap 2 = .ok (.invokevirtual 129, 3) := by decide +kernel
theorem dX7_swap_5 : decode cX7_swap 5 = .ok (.ifCond .eq 16, 3) := by decide +kernel
theorem dX7_swap_8 : decode cX7_swap 8 = .ok (.aload_n 0, 1) := by decide +kernel
theorem dX7_swap_9 : decode cX7_swap 9 = .ok (.iload_n 2, 1) := by decide +kernel
theorem dX7_swap_10 : decode cX7_swap 10 = .ok (.invokevirtual 129, 3) := by decide +kernel
theorem dX7_swap_13 : decode cX7_swap 13 = .ok (.ifCond .eq 8, 3) := by decide +kernel
theorem dX7_swap_16 : decode cX7_swap 16 = .ok (.iload_n 1, 1) := by decide +kernel
theorem dX7_swap_17 : decode cX7_swap 17 = .ok (.iload_n 2, 1) := by decide +kernel
theorem dX7_swap_18 : decode cX7_swap 18 = .ok (.if_icmp .ne 9, 3) := by decide +kernel
theorem dX7_swap_21 : decode cX7_swap 21 = .ok (.aload_n 0, 1) := by decide +kernel
theorem dX7_swap_22 : decode cX7_swap 22 = .ok (.iconst 0, 1) := by decide +kernel
theorem dX7_swap_23 : decode cX7_swap 23 = .ok (.invokevirtual 89, 3) := by decide +kernel
theorem dX7_swap_26 : decode cX7_swap 26 = .ok (.ireturn, 1) := by decide +kernel
theorem dX7_swap_27 : decode cX7_swap 27 = .ok (.aload_n 0, 1) := by decide +kernel
theorem dX7_swap_28 : decode cX7_swap 28 = .ok (.getfield 10, 3) := by decide +kernel
theorem dX7_swap_31 : decode cX7_swap 31 = .ok (.getfield 144, 3) := by decide +kernel
theorem dX7_swap_34 : decode cX7_swap 34 = .ok (.iload_n 1, 1) := by decide +kernel
theorem dX7_swap_35 : decode cX7_swap 35 = .ok (.iaload, 1) := by decide +kernel
theorem dX7_swap_36 : decode cX7_swap 36 = .ok (.aload_n 0, 1) := by decide +kernel
theorem dX7_swap_37 : decode cX7_swap 37 = .ok (.getfield 10, 3) := by decide +kernel
theorem dX7_swap_40 : decode cX7_swap 40 = .ok (.getfield 144, 3) := by decide +kernel
theorem dX7_swap_43 : decode cX7_swap 43 = .ok (.iload_n 2, 1) := by decide +kernel
theorem dX7_swap_44 : decode cX7_swap 44 = .ok (.iaload, 1) := by decide +kernel
theorem dX7_swap_45 : decode cX7_swap 45 = .ok (.if_icmp .ne 5, 3) := by decide +kernel
theorem dX7_swap_48 : decode cX7_swap 48 = .ok (.iconst 0, 1) := by decide +kernel
theorem dX7_swap_49 : decode cX7_swap 49 = .ok (.ireturn, 1) := by decide +kernel
theorem dX7_swap_50 : decode cX7_swap 50 = .ok (.aload_n 0, 1) := by decide +kernel
theorem dX7_swap_51 : decode cX7_swap 51 = .ok (.getfield 10, 3) := by decide +kernel
theorem dX7_swap_54 : decode cX7_swap 54 = .ok (.getfield 144, 3) := by decide +kernel
theorem dX7_swap_57 : decode cX7_swap 57 = .ok (.iload_n 1, 1) := by decide +kernel
theorem dX7_swap_58 : decode cX7_swap 58 = .ok (.aload_n 0, 1) := by decide +kernel
theorem dX7_swap_59 : decode cX7_swap 59 = .ok (.getfield 10, 3) := by decide +kernel
theorem dX7_swap_62 : decode cX7_swap 62 = .ok (.getfield 144, 3) := by decide +kernel
theorem dX7_swap_65 : decode cX7_swap 65 = .ok (.iload_n 2, 1) := by decide +kernel
theorem dX7_swap_66 : decode cX7_swap 66 = .ok (.aload_n 0, 1) := by decide +kernel
theorem dX7_swap_67 : decode cX7_swap 67 = .ok (.getfield 10, 3) := by decide +kernel
theorem dX7_swap_70 : decode cX7_swap 70 = .ok (.getfield 144, 3) := by decide +kernel
theorem dX7_swap_73 : decode cX7_swap 73 = .ok (.iload_n 1, 1) := by decide +kernel
theorem dX7_swap_74 : decode cX7_swap 74 = .ok (.iaload, 1) := by decide +kernel
theorem dX7_swap_75 : decode cX7_swap 75 = .ok (.invokestatic 99, 3) := by decide +kernel
theorem dX7_swap_78 : decode cX7_swap 78 = .ok (.iastore, 1) := by decide +kernel
theorem dX7_swap_79 : decode cX7_swap 79 = .ok (.iconst 1, 1) := by decide +kernel
theorem dX7_swap_80 : decode cX7_swap 80 = .ok (.ireturn, 1) := by decide +kernel
