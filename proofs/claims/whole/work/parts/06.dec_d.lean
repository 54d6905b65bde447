theorem dX8_init_0 : decode cX8_init 0 = .ok (.aload_n 0, 1) := by decide +kernel
theorem dX8_init_1 : decode cX8_init 1 = .ok (.invokespecial 3, 3) := by decide +kernel
theorem dX8_init_4 : decode cX8_init 4 = .ok (.aload_n 0, 1) := by decide +kernel
theorem dX8_init_5 : decode cX8_init 5 = .ok (.sipush 155, 3) := by decide +kernel
theorem dX8_init_8 : decode cX8_init 8 = .ok (.newarray .int, 2) := by decide +kernel
theorem dX8_init_10 : decode cX8_init 10 = .ok (.putfield 9, 3) := by decide +kernel
theorem dX8_init_13 : decode cX8_init 13 = .ok (.aload_n 0, 1) := by decide +kernel
theorem dX8_init_14 : decode cX8_init 14 = .ok (.sipush 155, 3) := by decide +kernel
theorem dX8_init_17 : decode cX8_init 17 = .ok (.newarray .int, 2) := by decide +kernel
theorem dX8_init_19 : decode cX8_init 19 = .ok (.putfield 13, 3) := by decide +kernel
theorem dX8_init_22 : decode cX8_init 22 = .ok (.aload_n 0, 1) := by decide +kernel
theorem dX8_init_23 : decode cX8_init 23 = .ok (.sipush 155, 3) := by decide +kernel
theorem dX8_init_26 : decode cX8_init 26 = .ok (.newarray .int, 2) := by decide +kernel
theorem dX8_init_28 : decode cX8_init 28 = .ok (.putfield 16, 3) := by decide +kernel
theorem dX8_init_31 : decode cX8_init 31 = .ok (.aload_n 0, 1) := by decide +kernel
theorem dX8_init_32 : decode cX8_init 32 = .ok (.bipush 7, 2) := by decide +kernel
theorem dX8_init_34 : decode cX8_init 34 = .ok (.newarray .int, 2) := by decide +kernel
theorem dX8_init_36 : decode cX8_init 36 = .ok (.putfield 19, 3) := by decide +kernel
theorem dX8_init_39 : decode cX8_init 39 = .ok (.aload_n 0, 1) := by decide +kernel
theorem dX8_init_40 : decode cX8_init 40 = .ok (.bipush 48, 2) := by decide +kernel
theorem dX8_init_42 : decode cX8_init 42 = .ok (.newarray .int, 2) := by decide +kernel
theorem dX8_init_44 : decode cX8_init 44 = .ok (.putfield 22, 3) := by decide +kernel
theorem dX8_init_47 : decode cX8_init 47 = .ok (.aload_n 0, 1) := by decide +kernel
theorem dX8_init_48 : decode cX8_init 48 = .ok (.bipush 48, 2) := by decide +kernel
theorem dX8_init_50 : decode cX8_init 50 = .ok (.newarray .int, 2) := by decide +kernel
theorem dX8_init_52 : decode cX8_init 52 = .ok (.putfield 25, 3) := by decide +kernel
theorem dX8_init_55 : decode cX8_init 55 = .ok (.aload_n 0, 1) := by decide +kernel
theorem dX8_init_56 : decode cX8_init 56 = .ok (.bipush 48, 2) := by decide +kernel
theorem dX8_init_58 : decode cX8_init 58 = .ok (.newarray .boolean, 2) := by decide +kernel
theorem dX8_init_60 : decode cX8_init 60 = .ok (.putfield 28, 3) := by decide +kernel
theorem dX8_init_63 : decode cX8_init 63 = .ok (.aload_n 0, 1) := by decide +kernel
theorem dX8_init_64 : decode cX8_init 64 = .ok (.bipush 41, 2) := by decide +kernel
theorem dX8_init_66 : decode cX8_init 66 = .ok (.newarray .long, 2) := by decide +kernel
theorem dX8_init_68 : decode cX8_init 68 = .ok (.putfield 32, 3) := by decide +kernel
theorem dX8_init_71 : decode cX8_init 71 = .ok (.aload_n 0, 1) := by decide +kernel
theorem dX8_init_72 : decode cX8_init 72 = .ok (.bipush 120, 2) := by decide +kernel
theorem dX8_init_74 : decode cX8_init 74 = .ok (.newarray .int, 2) := by decide +kernel
theorem dX8_init_76 : decode cX8_init 76 = .ok (.putfield 36, 3) := by decide +kernel
theorem dX8_init_79 : decode cX8_init 79 = .ok (.aload_n 0, 1) := by decide +kernel
theorem dX8_init_80 : decode cX8_init 80 = .ok (.iconst 4, 1) := by decide +kernel
theorem dX8_init_81 : decode cX8_init 81 = .ok (.newarray .int, 2) := by decide +kernel
theorem dX8_init_83 : decode cX8_init 83 = .ok (.putfield 39, 3) := by decide +kernel
theorem dX8_init_86 : decode cX8_init 86 = .ok (.aload_n 0, 1) := by decide +kernel
theorem dX8_init_87 : decode cX8_init 87 = .ok (.iconst 4, 1) := by decide +kernel
theorem dX8_init_88 : decode cX8_init 88 = .ok (.newarray .int, 2) := by decide +kernel
theorem dX8_init_90 : decode cX8_init 90 = .ok (.putfield 42, 3) := by decide +kernel
theorem dX8_init_93 : decode cX8_init 93 = .ok (.aload_n 0, 1) := by decide +kernel
theorem dX8_init_94 : decode cX8_init 94 = .ok (.sipush 160, 3) := by decide +kernel
theorem dX8_init_97 : decode cX8_init 97 = .ok (.newarray .int, 2) := by decide +kernel
theorem dX8_init_99 : decode cX8_init 99 = .ok (.putfield 45, 3) := by decide +kernel
theorem dX8_init_102 : decode cX8_init 102 = .ok (.aload_n 0, 1) := by decide +kernel
theorem dX8_init_103 : decode cX8_init 103 = .ok (.bipush 40, 2) := by decide +kernel
theorem dX8_init_105 : decode cX8_init 105 = .ok (.newarray .int, 2) := by decide +kernel
theorem dX8_init_107 : decode cX8_init 107 = .ok (.putfield 48, 3) := by decide +kernel
theorem dX8_init_110 : decode cX8_init 110 = .ok (.aload_n 0, 1) := by decide +kernel
theorem dX8_init_111 : decode cX8_init 111 = .ok (.getfield 9, 3) := by decide +kernel
theorem dX8_init_114 : decode cX8_init 114 = .ok (.iconst 4, 1) := by decide +kernel
theorem dX8_init_115 : decode cX8_init 115 = .ok (.iconst 1, 1) := by decide +kernel
theorem dX8_init_116 : decode cX8_init 116 = .ok (.iastore, 1) := by decide +kernel
theorem dX8_init_117 : decode cX8_init 117 = .ok (.aload_n 0, 1) := by decide +kernel
theorem dX8_init_118 : decode cX8_init 118 = .ok (.getfield 9, 3) := by decide +kernel
theorem dX8_init_121 : decode cX8_init 121 = .ok (.iconst 2, 1) := by decide +kernel
theorem dX8_init_122 : decode cX8_init 122 = .ok (.iconst 4, 1) := by decide +kernel
theorem dX8_init_123 : decode cX8_init 123 = .ok (.iastore, 1) := by decide +kernel
theorem dX8_init_124 : decode cX8_init 124 = .ok (.iconst 0, 1) := by decide +kernel
theorem dX8_init_125 : decode cX8_init 125 = .ok (.istore_n 1, 1) := by decide +kernel
theorem dX8_init_126 : decode cX8_init 126 = .ok (.iload_n 1, 1) := by decide +kernel
theorem dX8_init_127 : decode cX8_init 127 = .ok (.iconst 4, 1) := by decide +kernel
theorem dX8_init_128 : decode cX8_init 128 = .ok (.if_icmp .ge 18, 3) := by decide +kernel
theorem dX8_init_131 : decode cX8_init 131 = .ok (.aload_n 0, 1) := by decide +kernel
theorem dX8_init_132 : decode cX8_init 132 = .ok (.getfield 9, 3) := by decide +kernel
theorem dX8_init_135 : decode cX8_init 135 = .ok (.iconst 5, 1) := by decide +kernel
theorem dX8_init_136 : decode cX8_init 136 = .ok (.iload_n 1, 1) := by decide +kernel
theorem dX8_init_137 : decode cX8_init 137 = .ok (.iadd, 1) := by decide +kernel
theorem dX8_init_138 : decode cX8_init 138 = .ok (.iconst (-1), 1) := by decide +kernel
theorem dX8_init_139 : decode cX8_init 139 = .ok (.iastore, 1) := by decide +kernel
theorem dX8_init_140 : decode cX8_init 140 = .ok (.iinc 1 1, 3) := by decide +kernel
theorem dX8_init_143 : decode cX8_init 143 = .ok (.goto (-17), 3) := by decide +kernel
theorem dX8_init_146 : decode cX8_init 146 = .ok (.iconst 0, 1) := by decide +kernel
theorem dX8_init_147 : decode cX8_init 147 = .ok (.istore_n 1, 1) := by decide +kernel
theorem dX8_init_148 : decode cX8_init 148 = .ok (.iload_n 1, 1) := by decide +kernel
theorem dX8_init_149 : decode cX8_init 149 = .ok (.bipush 10, 2) := by decide +kernel
theorem dX8_init_151 : decode cX8_init 151 = .ok (.if_icmp .ge 20, 3) := by decide +kernel
theorem dX8_init_154 : decode cX8_init 154 = .ok (.aload_n 0, 1) := by decide +kernel
theorem dX8_init_155 : decode cX8_init 155 = .ok (.getfield 9, 3) := by decide +kernel
theorem dX8_init_158 : decode cX8_init 158 = .ok (.sipush 145, 3) := by decide +kernel
theorem dX8_init_161 : decode cX8_init 161 = .ok (.iload_n 1, 1) := by decide +kernel
theorem dX8_init_162 : decode cX8_init 162 = .ok (.iadd, 1) := by decide +kernel
theorem dX8_init_163 : decode cX8_init 163 = .ok (.iconst (-1), 1) := by decide +kernel
theorem dX8_init_164 : decode cX8_init 164 = .ok (.iastore, 1) := by decide +kernel
theorem dX8_init_165 : decode cX8_init 165 = .ok (.iinc 1 1, 3) := by decide +kernel
theorem dX8_init_168 : decode cX8_init 168 = .ok (.goto (-20), 3) := by decide +kernel
theorem dX8_init_171 : decode cX8_init 171 = .ok (.return_, 1) := by decide +kernel
theorem dX8_finds_0 : decode cX8_finds 0 = .ok (.aload_n 0, 1) := by decide +kernel
theorem dX8_finds_1 : decode cX8_finds 1 = .ok (.getfield 19, 3) := by decide +kernel
theorem dX8_finds_4 : decode cX8_finds 4 = .ok (.iload_n 1, 1) := by decide +kernel
theorem dX8_finds_5 : decode cX8_finds 5 = .ok (.dup2, 1) := by decide +kernel
theorem dX8_finds_6 : decode cX8_finds 6 = .ok (.iaload, 1) := by decide +kernel
theorem dX8_finds_7 : decode cX8_finds 7 = .ok (.iconst 1, 1) := by decide +kernel
theorem dX8_finds_8 : decode cX8_finds 8 = .ok (.iadd, 1) := by decide +kernel
theorem dX8_finds_9 : decode cX8_finds 9 = .ok (.iastore, 1) := by decide +kernel
theorem dX8_finds_10 : decode cX8_finds 10 = .ok (.ldc 51, 2) := by decide +kernel
theorem dX8_finds_12 : decode cX8_finds 12 = .ok (.iload_n 1, 1) := by decide +kernel
theorem dX8_finds_13 : decode cX8_finds 13 = .ok (.isub, 1) := by decide +kernel
theorem dX8_finds_14 : decode cX8_finds 14 = .ok (.ireturn, 1) := by decide +kernel
theorem dX8_in_0 : decode cX8_in 0 = .ok (.lload_n 0, 1) := by decide +kernel
theorem dX8_in_1 : decode cX8_in 1 = .ok (.lload_n 2, 1) := by decide +kernel
theorem dX8_in_2 : decode cX8_in 2 = .ok (.lcmp, 1) := by decide +kernel
theorem dX8_in_3 : decode cX8_in 3 = .ok (.ifCond .lt 14, 3) := by decide +kernel
theorem dX8_in_6 : decode cX8_in 6 = .ok (.lload_n 0, 1) := by decide +kernel
theorem dX8_in_7 : decode cX8_in 7 = .ok (.lload 4, 2) := by decide +kernel
theorem dX8_in_9 : decode cX8_in 9 = .ok (.lcmp, 1) := by decide +kernel
theorem dX8_in_10 : decode cX8_in 10 = .ok (.ifCond .gt 7, 3) := by decide +kernel
theorem dX8_in_13 : decode cX8_in 13 = .ok (.iconst 1, 1) := by decide +kernel
theorem dX8_in_14 : decode cX8_in 14 = .ok (.goto 4, 3) := by decide +kernel
theorem dX8_in_17 : decode cX8_in 17 = .ok (.iconst 0, 1) := by decide +kernel
theorem dX8_in_18 : decode cX8_in 18 = .ok (.ireturn, 1) := by decide +kernel
theorem dX8_become_0 : decode cX8_become 0 = .ok (.iconst 0, 1) := by decide +kernel
theorem dX8_become_1 : decode cX8_become 1 = .ok (.istore_n 2, 1) := by decide +kernel
theorem dX8_become_2 : decode cX8_become 2 = .ok (.iload_n 2, 1) := by decide +kernel
theorem dX8_become_3 : decode cX8_become 3 = .ok (.sipush 155, 3) := by decide +kernel
theorem dX8_become_6 : decode cX8_become 6 = .ok (.if_icmp .ge 15, 3) := by decide +kernel
theorem dX8_become_9 : decode cX8_become 9 = .ok (.aload_n 1, 1) := by decide +kernel
theorem dX8_become_10 : decode cX8_become 10 = .ok (.iload_n 2, 1) := by decide +kernel
theorem dX8_become_11 : decode cX8_become 11 = .ok (.aload_n 0, 1) := by decide +kernel
theorem dX8_become_12 : decode cX8_become 12 = .ok (.iload_n 2, 1) := by decide +kernel
theorem dX8_become_13 : decode cX8_become 13 = .ok (.iaload, 1) := by decide +kernel
theorem dX8_become_14 : decode cX8_become 14 = .ok (.iastore, 1) := by decide +kernel
theorem dX8_become_15 : decode cX8_become 15 = .ok (.iinc 2 1, 3) := by decide +kernel
theorem dX8_become_18 : decode cX8_become 18 = .ok (.goto (-16), 3) := by decide +kernel
theorem dX8_become_21 : decode cX8_become 21 = .ok (.return_, 1) := by decide +kernel
set_option maxRecDepth 20000 in
theorem ggX8_lends_X8_become : GoodIn wsX8_lends wsX8_become := goodIn_r _ [6] (by decide +kernel) (by decide +kernel)
set_option maxRecDepth 20000 in
theorem gX8_lends_X8_become : GoodIn wsX8_lends (va_wsS RX8 52 yX8_become wsX8_become) := goodIn_app (goodIn_of _ (by decide +kernel)) ggX8_lends_X8_become
theorem dX8_lends_0 : decode cX8_lends 0 = .ok (.aload_n 0, 1) := by decide +kernel
theorem dX8_lends_1 : decode cX8_lends 1 = .ok (.getfield 9, 3) := by decide +kernel
theorem dX8_lends_4 : decode cX8_lends 4 = .ok (.aload_n 0, 1) := by decide +kernel
theorem dX8_lends_5 : decode cX8_lends 5 = .ok (.getfield 16, 3) := by decide +kernel
theorem dX8_lends_8 : decode cX8_lends 8 = .ok (.invokestatic 52, 3) := by decide +kernel
theorem dX8_lends_11 : decode cX8_lends 11 = .ok (.return_, 1) := by decide +kernel
set_option maxRecDepth 20000 in
theorem ggX8_laysBack_X8_become : GoodIn wsX8_laysBack wsX8_become := goodIn_r _ [6] (by decide +kernel) (by decide +kernel)
set_option maxRecDepth 20000 in
theorem gX8_laysBack_X8_become : GoodIn wsX8_laysBack (va_wsS RX8 52 yX8_become wsX8_become) := goodIn_app (goodIn_of _ (by decide +kernel)) ggX8_laysBack_X8_become
theorem dX8_laysBack_0 : decode cX8_laysBack 0 = .ok (.aload_n 0, 1) := by decide +kernel
theorem dX8_laysBack_1 : decode cX8_laysBack 1 = .ok (.getfield 16, 3) := by decide +kernel
theorem dX8_laysBack_4 : decode cX8_laysBack 4 = .ok (.aload_n 0, 1) := by decide +kernel
theorem dX8_laysBack_5 : decode cX8_laysBack 5 = .ok (.getfield 9, 3) := by decide +kernel
theorem dX8_laysBack_8 : decode cX8_laysBack 8 = .ok (.invokestatic 52, 3) := by decide +kernel
theorem dX8_laysBack_11 : decode cX8_laysBack 11 = .ok (.return_, 1) := by decide +kernel
set_option maxRecDepth 20000 in
theorem ggX8_isCell_X8_in : GoodIn wsX8_isCell wsX8_in := goodIn_r _ [5] (by decide +kernel) (by decide +kernel)
set_option maxRecDepth 20000 in
theorem gX8_isCell_X8_in : GoodIn wsX8_isCell (va_wsS RX8 58 yX8_in wsX8_in) := goodIn_app (goodIn_of _ (by decide +kernel)) ggX8_isCell_X8_in
theorem dX8_isCell_0 : decode cX8_isCell 0 = .ok (.iload_n 0, 1) := by decide +kernel
theorem dX8_isCell_1 : decode cX8_isCell 1 = .ok (.i2l, 1) := by decide +kernel
theorem dX8_isCell_2 : decode cX8_isCell 2 = .ok (.lconst 0, 1) := by decide +kernel
theorem dX8_isCell_3 : decode cX8_isCell 3 = .ok (.ldc2_w 56, 3) := by decide +kernel
theorem dX8_isCell_6 : decode cX8_isCell 6 = .ok (.invokestatic 58, 3) := by decide +kernel
theorem dX8_isCell_9 : decode cX8_isCell 9 = .ok (.ireturn, 1) := by decide +kernel
set_option maxRecDepth 20000 in
theorem ggX8_isGuard_X8_in : GoodIn wsX8_isGuard wsX8_in := goodIn_r _ [5] (by decide +kernel) (by decide +kernel)
set_option maxRecDepth 20000 in
theorem gX8_isGuard_X8_in : GoodIn wsX8_isGuard (va_wsS RX8 58 yX8_in wsX8_in) := goodIn_app (goodIn_of _ (by decide +kernel)) ggX8_isGuard_X8_in
theorem dX8_isGuard_0 : decode cX8_isGuard 0 = .ok (.iload_n 0, 1) := by decide +kernel
theorem dX8_isGuard_1 : decode cX8_isGuard 1 = .ok (.i2l, 1) := by decide +kernel
theorem dX8_isGuard_2 : decode cX8_isGuard 2 = .ok (.lconst 0, 1) := by decide +kernel
theorem dX8_isGuard_3 : decode cX8_isGuard 3 = .ok (.ldc2_w 62, 3) := by decide +kernel
theorem dX8_isGuard_6 : decode cX8_isGuard 6 = .ok (.invokestatic 58, 3) := by decide +kernel
theorem dX8_isGuard_9 : decode cX8_isGuard 9 = .ok (.ireturn, 1) := by decide +kernel
set_option maxRecDepth 20000 in
theorem ggX8_isSide_X8_in : GoodIn wsX8_isSide wsX8_in := goodIn_r _ [4] (by decide +kernel) (by decide +kernel)
set_option maxRecDepth 20000 in
theorem gX8_isSide_X8_in : GoodIn wsX8_isSide (va_wsS RX8 58 yX8_in wsX8_in) := goodIn_app (goodIn_of _ (by decide +kernel)) ggX8_isSide_X8_in
theorem dX8_isSide_0 : decode cX8_isSide 0 = .ok (.iload_n 0, 1) := by decide +kernel
theorem dX8_isSide_1 : decode cX8_isSide 1 = .ok (.i2l, 1) := by decide +kernel
theorem dX8_isSide_2 : decode cX8_isSide 2 = .ok (.lconst 0, 1) := by decide +kernel
theorem dX8_isSide_3 : decode cX8_isSide 3 = .ok (.lconst 1, 1) := by decide +kernel
theorem dX8_isSide_4 : decode cX8_isSide 4 = .ok (.invokestatic 58, 3) := by decide +kernel
theorem dX8_isSide_7 : decode cX8_isSide 7 = .ok (.ireturn, 1) := by decide +kernel
set_option maxRecDepth 20000 in
theorem ggX8_isBather_X8_in : GoodIn wsX8_isBather wsX8_in := goodIn_r _ [5] (by decide +kernel) (by decide +kernel)
set_option maxRecDepth 20000 in
theorem gX8_isBather_X8_in : GoodIn wsX8_isBather (va_wsS RX8 58 yX8_in wsX8_in) := goodIn_app (goodIn_of _ (by decide +kernel)) ggX8_isBather_X8_in
theorem dX8_isBather_0 : decode cX8_isBather 0 = .ok (.iload_n 1, 1) := by decide +kernel
theorem dX8_isBather_1 : decode cX8_isBather 1 = .ok (.i2l, 1) := by decide +kernel
theorem dX8_isBather_2 : decode cX8_isBather 2 = .ok (.lconst 0, 1) := by decide +kernel
theorem dX8_isBather_3 : decode cX8_isBather 3 = .ok (.aload_n 0, 1) := by decide +kernel
theorem dX8_isBather_4 : decode cX8_isBather 4 = .ok (.getfield 9, 3) := by decide +kernel
theorem dX8_isBather_7 : decode cX8_isBather 7 = .ok (.iconst 1, 1) := by decide +kernel
theorem dX8_isBather_8 : decode cX8_isBather 8 = .ok (.iaload, 1) := by decide +kernel
theorem dX8_isBather_9 : decode cX8_isBather 9 = .ok (.iconst 1, 1) := by decide +kernel
theorem dX8_isBather_10 : decode cX8_isBather 10 = .ok (.isub, 1) := by decide +kernel
theorem dX8_isBather_11 : decode cX8_isBather 11 = .ok (.i2l, 1) := by decide +kernel
theorem dX8_isBather_12 : decode cX8_isBather 12 = .ok (.invokestatic 58, 3) := by decide +kernel
theorem dX8_isBather_15 : decode cX8_isBather 15 = .ok (.ireturn, 1) := by decide +kernel
theorem dX8_its_0 : decode cX8_its 0 = .ok (.aload_n 0, 1) := by decide +kernel
theorem dX8_its_1 : decode cX8_its 1 = .ok (.getfield 9, 3) := by decide +kernel
theorem dX8_its_4 : decode cX8_its 4 = .ok (.bipush 105, 2) := by decide +kernel
theorem dX8_its_6 : decode cX8_its 6 = .ok (.iconst 5, 1) := by decide +kernel
theorem dX8_its_7 : decode cX8_its 7 = .ok (.iload_n 1, 1) := by decide +kernel
theorem dX8_its_8 : decode cX8_its 8 = .ok (.imul, 1) := by decide +kernel
theorem dX8_its_9 : decode cX8_its 9 = .ok (.iadd, 1) := by decide +kernel
theorem dX8_its_10 : decode cX8_its 10 = .ok (.iload_n 2, 1) := by decide +kernel
theorem dX8_its_11 : decode cX8_its 11 = .ok (.iadd, 1) := by decide +kernel
theorem dX8_its_12 : decode cX8_its 12 = .ok (.iaload, 1) := by decide +kernel
theorem dX8_its_13 : decode cX8_its 13 = .ok (.ireturn, 1) := by decide +kernel
theorem dX8_sets_0 : decode cX8_sets 0 = .ok (.aload_n 0, 1) := by decide +kernel
theorem dX8_sets_1 : decode cX8_sets 1 = .ok (.getfield 9, 3) := by decide +kernel
theorem dX8_sets_4 : decode cX8_sets 4 = .ok (.bipush 105, 2) := by decide +kernel
theorem dX8_sets_6 : decode cX8_sets 6 = .ok (.iconst 5, 1) := by decide +kernel
theorem dX8_sets_7 : decode cX8_sets 7 = .ok (.iload_n 1, 1) := by decide +kernel
theorem dX8_sets_8 : decode cX8_sets 8 = .ok (.imul, 1) := by decide +kernel
theorem dX8_sets_9 : decode cX8_sets 9 = .ok (.iadd, 1) := by decide +kernel
theorem dX8_sets_10 : decode cX8_sets 10 = .ok (.iload_n 2, 1) := by decide +kernel
theorem dX8_sets_11 : decode cX8_sets 11 = .ok (.iadd, 1) := by decide +kernel
theorem dX8_sets_12 : decode cX8_sets 12 = .ok (.iload_n 3, 1) := by decide +kernel
theorem dX8_sets_13 : decode cX8_sets 13 = .ok (.iastore, 1) := by decide +kernel
theorem dX8_sets_14 : decode cX8_sets 14 = .ok (.return_, 1) := by decide +kernel
theorem dX8_becomes_0 : decode cX8_becomes 0 = .ok (.aload_n 0, 1) := by decide +kernel
theorem dX8_becomes_1 : decode cX8_becomes 1 = .ok (.getfield 9, 3) := by decide +kernel
theorem dX8_becomes_4 : decode cX8_becomes 4 = .ok (.iload_n 1, 1) := by decide +kernel
theorem dX8_becomes_5 : decode cX8_becomes 5 = .ok (.iaload, 1) := by decide +kernel
theorem dX8_becomes_6 : decode cX8_becomes 6 = .ok (.istore_n 3, 1) := by decide +kernel
theorem dX8_becomes_7 : decode cX8_becomes 7 = .ok (.aload_n 0, 1) := by decide +kernel
theorem dX8_becomes_8 : decode cX8_becomes 8 = .ok (.getfield 9, 3) := by decide +kernel
theorem dX8_becomes_11 : decode cX8_becomes 11 = .ok (.iload_n 1, 1) := by decide +kernel
theorem dX8_becomes_12 : decode cX8_becomes 12 = .ok (.iload_n 2, 1) := by decide +kernel
theorem dX8_becomes_13 : decode cX8_becomes 13 = .ok (.iastore, 1) := by decide +kernel
theorem dX8_becomes_14 : decode cX8_becomes 14 = .ok (.iload_n 3, 1) := by decide +kernel
theorem dX8_becomes_15 : decode cX8_becomes 15 = .ok (.ireturn, 1) := by decide +kernel
theorem dX8_apart_0 : decode cX8_apart 0 = .ok (.iload_n 0, 1) := by decide +kernel
theorem dX8_apart_1 : decode cX8_apart 1 = .ok (.bipush 8, 2) := by decide +kernel
theorem dX8_apart_3 : decode cX8_apart 3 = .ok (.idiv, 1) := by decide +kernel
theorem dX8_apart_4 : decode cX8_apart 4 = .ok (.iload_n 1, 1) := by decide +kernel
theorem dX8_apart_5 : decode cX8_apart 5 = .ok (.bipush 8, 2) := by decide +kernel
theorem dX8_apart_7 : decode cX8_apart 7 = .ok (.idiv, 1) := by decide +kernel
theorem dX8_apart_8 : decode cX8_apart 8 = .ok (.isub, 1) := by decide +kernel
theorem dX8_apart_9 : decode cX8_apart 9 = .ok (.invokestatic 64, 3) := by decide +kernel
theorem dX8_apart_12 : decode cX8_apart 12 = .ok (.iload_n 0, 1) := by decide +kernel
theorem dX8_apart_13 : decode cX8_apart 13 = .ok (.bipush 8, 2) := by decide +kernel
theorem dX8_apart_15 : decode cX8_apart 15 = .ok (.irem, 1) := by decide +kernel
theorem dX8_apart_16 : decode cX8_apart 16 = .ok (.iload_n 1, 1) := by decide +kernel
theorem dX8_apart_17 : decode cX8_apart 17 = .ok (.bipush 8, 2) := by decide +kernel
theorem dX8_apart_19 : decode cX8_apart 19 = .ok (.irem, 1) := by decide +kernel
theorem dX8_apart_20 : decode cX8_apart 20 = .ok (.isub, 1) := by decide +kernel
theorem dX8_apart_21 : decode cX8_apart 21 = .ok (.invokestatic 64, 3) := by decide +kernel
theorem dX8_apart_24 : decode cX8_apart 24 = .ok (.iadd, 1) := by decide +kernel
theorem dX8_apart_25 : decode cX8_apart 25 = .ok (.ireturn, 1) := by decide +kernel
set_option maxRecDepth 20000 in
theorem ggX8_sees_X8_apart : GoodIn wsX8_sees wsX8_apart := goodIn_r _ [5, 6, 7, 8, 9] (by decide +kernel) (by decide +kernel)
set_option maxRecDepth 20000 in
theorem gX8_sees_X8_apart : GoodIn wsX8_sees (va_wsS RX8 70 yX8_apart wsX8_apart) := goodIn_app (goodIn_of _ (by decide +kernel)) ggX8_sees_X8_apart
theorem dX8_sees_0 : decode cX8_sees 0 = .ok (.iload_n 1, 1) := by decide +kernel
theorem dX8_sees_1 : decode cX8_sees 1 = .ok (.ifCond .lt 31, 3) := by decide +kernel
theorem dX8_sees_4 : decode cX8_sees 4 = .ok (.iload_n 1, 1) := by decide +kernel
theorem dX8_sees_5 : decode cX8_sees 5 = .ok (.iload_n 2, 1) := by decide +kernel
theorem dX8_sees_6 : decode cX8_sees 6 = .ok (.invokestatic 70, 3) := by decide +kernel
theorem dX8_sees_9 : decode cX8_sees 9 = .ok (.aload_n 0, 1) := by decide +kernel
theorem dX8_sees_10 : decode cX8_sees 10 = .ok (.getfield 9, 3) := by decide +kernel
theorem dX8_sees_13 : decode cX8_sees 13 = .ok (.iconst 2, 1) := by decide +kernel
theorem dX8_sees_14 : decode cX8_sees 14 = .ok (.iaload, 1) := by decide +kernel
theorem dX8_sees_15 : decode cX8_sees 15 = .ok (.aload_n 0, 1) := by decide +kernel
theorem dX8_sees_16 : decode cX8_sees 16 = .ok (.getfield 9, 3) := by decide +kernel
theorem dX8_sees_19 : decode cX8_sees 19 = .ok (.bipush 9, 2) := by decide +kernel
theorem dX8_sees_21 : decode cX8_sees 21 = .ok (.iload_n 2, 1) := by decide +kernel
theorem dX8_sees_22 : decode cX8_sees 22 = .ok (.iadd, 1) := by decide +kernel
theorem dX8_sees_23 : decode cX8_sees 23 = .ok (.iaload, 1) := by decide +kernel
theorem dX8_sees_24 : decode cX8_sees 24 = .ok (.isub, 1) := by decide +kernel
theorem dX8_sees_25 : decode cX8_sees 25 = .ok (.if_icmp .gt 7, 3) := by decide +kernel
theorem dX8_sees_28 : decode cX8_sees 28 = .ok (.iconst 1, 1) := by decide +kernel
theorem dX8_sees_29 : decode cX8_sees 29 = .ok (.goto 4, 3) := by decide +kernel
theorem dX8_sees_32 : decode cX8_sees 32 = .ok (.iconst 0, 1) := by decide +kernel
theorem dX8_sees_33 : decode cX8_sees 33 = .ok (.ireturn, 1) := by decide +kernel
set_option maxRecDepth 20000 in
theorem ggX8_seenBy_X8_sees : GoodIn wsX8_seenBy wsX8_sees := goodIn_r _ [6, 1, 7, 8, 5, 9, 10, 11, 12, 13, 14, 15, 16, 17, 18, 19, 20, 21, 22, 23, 24, 25, 26, 27, 28, 29, 30, 31, 32, 33] (by decide +kernel) (by decide +kernel)
set_option maxRecDepth 20000 in
theorem gX8_seenBy_X8_sees : GoodIn wsX8_seenBy (wsV RX8 74 RX8 yX8_sees wsX8_sees) := goodIn_app (goodIn_of _ (by decide +kernel)) ggX8_seenBy_X8_sees
theorem dX8_seenBy_0 : decode cX8_seenBy 0 = .ok (.iconst 0, 1) := by decide +kernel
theorem dX8_seenBy_1 : decode cX8_seenBy 1 = .ok (.istore_n 2, 1) := by decide +kernel
theorem dX8_seenBy_2 : decode cX8_seenBy 2 = .ok (.iconst 0, 1) := by decide +kernel
theorem dX8_seenBy_3 : decode cX8_seenBy 3 = .ok (.istore_n 3, 1) := by decide +kernel
theorem dX8_seenBy_4 : decode cX8_seenBy 4 = .ok (.iload_n 3, 1) := by decide +kernel
theorem dX8_seenBy_5 : decode cX8_seenBy 5 = .ok (.iconst 4, 1) := by decide +kernel
theorem dX8_seenBy_6 : decode cX8_seenBy 6 = .ok (.if_icmp .ge 35, 3) := by decide +kernel
theorem dX8_seenBy_9 : decode cX8_seenBy 9 = .ok (.iload_n 2, 1) := by decide +kernel
theorem dX8_seenBy_10 : decode cX8_seenBy 10 = .ok (.aload_n 0, 1) := by decide +kernel
theorem dX8_seenBy_11 : decode cX8_seenBy 11 = .ok (.aload_n 0, 1) := by decide +kernel
theorem dX8_seenBy_12 : decode cX8_seenBy 12 = .ok (.getfield 9, 3) := by decide +kernel
theorem dX8_seenBy_15 : decode cX8_seenBy 15 = .ok (.iconst 5, 1) := by decide +kernel
theorem dX8_seenBy_16 : decode cX8_seenBy 16 = .ok (.iload_n 3, 1) := by decide +kernel
theorem dX8_seenBy_17 : decode cX8_seenBy 17 = .ok (.iadd, 1) := by decide +kernel
theorem dX8_seenBy_18 : decode cX8_seenBy 18 = .ok (.iaload, 1) := by decide +kernel
theorem dX8_seenBy_19 : decode cX8_seenBy 19 = .ok (.iload_n 1, 1) := by decide +kernel
theorem dX8_seenBy_20 : decode cX8_seenBy 20 = .ok (.invokevirtual 74, 3) := by decide +kernel
theorem dX8_seenBy_23 : decode cX8_seenBy 23 = .ok (.ifCond .eq 9, 3) := by decide +kernel
theorem dX8_seenBy_26 : decode cX8_seenBy 26 = .ok (.iconst 1, 1) := by decide +kernel
theorem dX8_seenBy_27 : decode cX8_seenBy 27 = .ok (.iload_n 3, 1) := by decide +kernel
theorem dX8_seenBy_28 : decode cX8_seenBy 28 = .ok (.ishl, 1) := by decide +kernel
theorem dX8_seenBy_29 : decode cX8_seenBy 29 = .ok (.goto 4, 3) := by decide +kernel
theorem dX8_seenBy_32 : decode cX8_seenBy 32 = .ok (.iconst 0, 1) := by decide +kernel
theorem dX8_seenBy_33 : decode cX8_seenBy 33 = .ok (.ior, 1) := by decide +kernel
theorem dX8_seenBy_34 : decode cX8_seenBy 34 = .ok (.istore_n 2, 1) := by decide +kernel
theorem dX8_seenBy_35 : decode cX8_seenBy 35 = .ok (.iinc 3 1, 3) := by decide +kernel
theorem dX8_seenBy_38 : decode cX8_seenBy 38 = .ok (.goto (-34), 3) := by decide +kernel
theorem dX8_seenBy_41 : decode cX8_seenBy 41 = .ok (.iload_n 2, 1) := by decide +kernel
theorem dX8_seenBy_42 : decode cX8_seenBy 42 = .ok (.ireturn, 1) := by decide +kernel
set_option maxRecDepth 20000 in
theorem ggX8_isSeen_X8_seenBy : GoodIn wsX8_isSeen wsX8_seenBy := goodIn_r _ [5, 6, 7, 8, 9, 4, 10, 11, 12, 13, 14, 15, 16, 17, 18, 19, 20, 21, 22, 23, 24, 25, 26, 27, 28, 29, 30, 31, 32, 33, 34, 35, 36, 37] (by decide +kernel) (by decide +kernel)
set_option maxRecDepth 20000 in
theorem gX8_isSeen_X8_seenBy : GoodIn wsX8_isSeen (wsV RX8 78 RX8 yX8_seenBy wsX8_seenBy) := goodIn_app (goodIn_of _ (by decide +kernel)) ggX8_isSeen_X8_seenBy
theorem dX8_isSeen_0 : decode cX8_isSeen 0 = .ok (.aload_n 0, 1) := by decide +kernel
theorem dX8_isSeen_1 : decode cX8_isSeen 1 = .ok (.iload_n 1, 1) := by decide +kernel
theorem dX8_isSeen_2 : decode cX8_isSeen 2 = .ok (.invokevirtual 78, 3) := by decide +kernel
theorem dX8_isSeen_5 : decode cX8_isSeen 5 = .ok (.ifCond .eq 7, 3) := by decide +kernel
theorem dX8_isSeen_8 : decode cX8_isSeen 8 = .ok (.iconst 1, 1) := by decide +kernel
theorem dX8_isSeen_9 : decode cX8_isSeen 9 = .ok (.goto 4, 3) := by decide +kernel
theorem dX8_isSeen_12 : decode cX8_isSeen 12 = .ok (.iconst 0, 1) := by decide +kernel
theorem dX8_isSeen_13 : decode cX8_isSeen 13 = .ok (.ireturn, 1) := by decide +kernel
set_option maxRecDepth 20000 in
theorem ggX8_beside_X8_in : GoodIn wsX8_beside wsX8_in := goodIn_r _ [6] (by decide +kernel) (by decide +kernel)
set_option maxRecDepth 20000 in
theorem gX8_beside_X8_in : GoodIn wsX8_beside (va_wsS RX8 58 yX8_in wsX8_in) := goodIn_app (goodIn_of _ (by decide +kernel)) ggX8_beside_X8_in
theorem dX8_beside_0 : decode cX8_beside 0 = .ok (.iload_n 0, 1) := by decide +kernel
theorem dX8_beside_1 : decode cX8_beside 1 = .ok (.bipush 8, 2) := by decide +kernel
theorem dX8_beside_3 : decode cX8_beside 3 = .ok (.idiv, 1) := by decide +kernel
theorem dX8_beside_4 : decode cX8_beside 4 = .ok (.iload_n 1, 1) := by decide +kernel
theorem dX8_beside_5 : decode cX8_beside 5 = .ok (.iconst 3, 1) := by decide +kernel
theorem dX8_beside_6 : decode cX8_beside 6 = .ok (.if_icmp .ne 7, 3) := by decide +kernel
theorem dX8_beside_9 : decode cX8_beside 9 = .ok (.iconst 1, 1) := by decide +kernel
theorem dX8_beside_10 : decode cX8_beside 10 = .ok (.goto 13, 3) := by decide +kernel
theorem dX8_beside_13 : decode cX8_beside 13 = .ok (.iload_n 1, 1) := by decide +kernel
theorem dX8_beside_14 : decode cX8_beside 14 = .ok (.iconst 1, 1) := by decide +kernel
theorem dX8_beside_15 : decode cX8_beside 15 = .ok (.if_icmp .ne 7, 3) := by decide +kernel
theorem dX8_beside_18 : decode cX8_beside 18 = .ok (.iconst (-1), 1) := by decide +kernel
theorem dX8_beside_19 : decode cX8_beside 19 = .ok (.goto 4, 3) := by decide +kernel
theorem dX8_beside_22 : decode cX8_beside 22 = .ok (.iconst 0, 1) := by decide +kernel
theorem dX8_beside_23 : decode cX8_beside 23 = .ok (.iadd, 1) := by decide +kernel
theorem dX8_beside_24 : decode cX8_beside 24 = .ok (.istore_n 2, 1) := by decide +kernel
theorem dX8_beside_25 : decode cX8_beside 25 = .ok (.iload_n 0, 1) := by decide +kernel
theorem dX8_beside_26 : decode cX8_beside 26 = .ok (.bipush 8, 2) := by decide +kernel
theorem dX8_beside_28 : decode cX8_beside 28 = .ok (.irem, 1) := by decide +kernel
theorem dX8_beside_29 : decode cX8_beside 29 = .ok (.iload_n 1, 1) := by decide +kernel
theorem dX8_beside_30 : decode cX8_beside 30 = .ok (.iconst 2, 1) := by decide +kernel
theorem dX8_beside_31 : decode cX8_beside 31 = .ok (.if_icmp .ne 7, 3) := by decide +kernel
theorem dX8_beside_34 : decode cX8_beside 34 = .ok (.iconst 1, 1) := by decide +kernel
theorem dX8_beside_35 : decode cX8_beside 35 = .ok (.goto 13, 3) := by decide +kernel
theorem dX8_beside_38 : decode cX8_beside 38 = .ok (.iload_n 1, 1) := by decide +kernel
theorem dX8_beside_39 : decode cX8_beside 39 = .ok (.iconst 4, 1) := by decide +kernel
theorem dX8_beside_40 : decode cX8_beside 40 = .ok (.if_icmp .ne 7, 3) := by decide +kernel
theorem dX8_beside_43 : decode cX8_beside 43 = .ok (.iconst (-1), 1) := by decide +kernel
theorem dX8_beside_44 : decode cX8_beside 44 = .ok (.goto 4, 3) := by decide +kernel
theorem dX8_beside_47 : decode cX8_beside 47 = .ok (.iconst 0, 1) := by decide +kernel
theorem dX8_beside_48 : decode cX8_beside 48 = .ok (.iadd, 1) := by decide +kernel
theorem dX8_beside_49 : decode cX8_beside 49 = .ok (.istore_n 3, 1) := by decide +kernel
theorem dX8_beside_50 : decode cX8_beside 50 = .ok (.iload_n 2, 1) := by decide +kernel
theorem dX8_beside_51 : decode cX8_beside 51 = .ok (.i2l, 1) := by decide +kernel
theorem dX8_beside_52 : decode cX8_beside 52 = .ok (.lconst 0, 1) := by decide +kernel
theorem dX8_beside_53 : decode cX8_beside 53 = .ok (.ldc2_w 81, 3) := by decide +kernel
theorem dX8_beside_56 : decode cX8_beside 56 = .ok (.invokestatic 58, 3) := by decide +kernel
theorem dX8_beside_59 : decode cX8_beside 59 = .ok (.ifCond .eq 28, 3) := by decide +kernel
theorem dX8_beside_62 : decode cX8_beside 62 = .ok (.iload_n 3, 1) := by decide +kernel
theorem dX8_beside_63 : decode cX8_beside 63 = .ok (.i2l, 1) := by decide +kernel
theorem dX8_beside_64 : decode cX8_beside 64 = .ok (.lconst 0, 1) := by decide +kernel
theorem dX8_beside_65 : decode cX8_beside 65 = .ok (.ldc2_w 83, 3) := by decide +kernel
theorem dX8_beside_68 : decode cX8_beside 68 = .ok (.invokestatic 58, 3) := by decide +kernel
theorem dX8_beside_71 : decode cX8_beside 71 = .ok (.ifCond .eq 16, 3) := by decide +kernel
theorem dX8_beside_74 : decode cX8_beside 74 = .ok (.iload_n 1, 1) := by decide +kernel
theorem dX8_beside_75 : decode cX8_beside 75 = .ok (.ifCond .le 12, 3) := by decide +kernel
theorem dX8_beside_78 : decode cX8_beside 78 = .ok (.bipush 8, 2) := by decide +kernel
theorem dX8_beside_80 : decode cX8_beside 80 = .ok (.iload_n 2, 1) := by decide +kernel
theorem dX8_beside_81 : decode cX8_beside 81 = .ok (.imul, 1) := by decide +kernel
theorem dX8_beside_82 : decode cX8_beside 82 = .ok (.iload_n 3, 1) := by decide +kernel
theorem dX8_beside_83 : decode cX8_beside 83 = .ok (.iadd, 1) := by decide +kernel
theorem dX8_beside_84 : decode cX8_beside 84 = .ok (.goto 4, 3) := by decide +kernel
theorem dX8_beside_87 : decode cX8_beside 87 = .ok (.iconst (-1), 1) := by decide +kernel
theorem dX8_beside_88 : decode cX8_beside 88 = .ok (.ireturn, 1) := by decide +kernel
theorem dX8_orOwn_0 : decode cX8_orOwn 0 = .ok (.iload_n 0, 1) := by decide +kernel
theorem dX8_orOwn_1 : decode cX8_orOwn 1 = .ok (.ifCond .ge 7, 3) := by decide +kernel
theorem dX8_orOwn_4 : decode cX8_orOwn 4 = .ok (.iload_n 1, 1) := by decide +kernel
theorem dX8_orOwn_5 : decode cX8_orOwn 5 = .ok (.goto 4, 3) := by decide +kernel
theorem dX8_orOwn_8 : decode cX8_orOwn 8 = .ok (.iload_n 0, 1) := by decide +kernel
theorem dX8_orOwn_9 : decode cX8_orOwn 9 = .ok (.ireturn, 1) := by decide +kernel
set_option maxRecDepth 20000 in
theorem ggX8_fill_X8_isCell : GoodIn wsX8_fill wsX8_isCell := goodIn_r _ [6, 7, 8, 9, 5, 10] (by decide +kernel) (by decide +kernel)
set_option maxRecDepth 20000 in
theorem gX8_fill_X8_isCell : GoodIn wsX8_fill (va_wsS RX8 85 yX8_isCell wsX8_isCell) := goodIn_app (goodIn_of _ (by decide +kernel)) ggX8_fill_X8_isCell
set_option maxRecDepth 20000 in
theorem ggX8_fill_X8_in : GoodIn wsX8_fill wsX8_in := goodIn_r _ [10] (by decide +kernel) (by decide +kernel)
set_option maxRecDepth 20000 in
theorem gX8_fill_X8_in : GoodIn wsX8_fill (va_wsS RX8 58 yX8_in wsX8_in) := goodIn_app (goodIn_of _ (by decide +kernel)) ggX8_fill_X8_in
set_option maxRecDepth 20000 in
theorem ggX8_fill_X8_finds : GoodIn wsX8_fill wsX8_finds := goodIn_r _ [14, 15, 16, 22, 23, 24, 25, 26, 27, 28, 29, 30, 31, 32, 33, 34, 35, 36, 37, 38, 39, 40, 41] (by decide +kernel) (by decide +kernel)
set_option maxRecDepth 20000 in
theorem gX8_fill_X8_finds : GoodIn wsX8_fill (wsV RX8 93 RX8 yX8_finds wsX8_finds) := goodIn_app (goodIn_of _ (by decide +kernel)) ggX8_fill_X8_finds
set_option maxRecDepth 20000 in
theorem ggX8_fill_X8_becomes : GoodIn wsX8_fill wsX8_becomes := goodIn_r _ [20, 21, 22, 23, 24, 25, 26, 27, 28, 29, 30, 31, 32, 33, 34, 35, 36, 37, 38, 39, 40, 41] (by decide +kernel) (by decide +kernel)
set_option maxRecDepth 20000 in
theorem gX8_fill_X8_becomes : GoodIn wsX8_fill (wsV RX8 96 RX8 yX8_becomes wsX8_becomes) := goodIn_app (goodIn_of _ (by decide +kernel)) ggX8_fill_X8_becomes
theorem dX8_fill_0 : decode cX8_fill 0 = .ok (.iload_n 1, 1) := by decide +kernel
theorem dX8_fill_1 : decode cX8_fill 1 = .ok (.invokestatic 85, 3) := by decide +kernel
theorem dX8_fill_4 : decode cX8_fill 4 = .ok (.ifCond .eq 35, 3) := by decide +kernel
theorem dX8_fill_7 : decode cX8_fill 7 = .ok (.iload_n 2, 1) := by decide +kernel
theorem dX8_fill_8 : decode cX8_fill 8 = .ok (.i2l, 1) := by decide +kernel
theorem dX8_fill_9 : decode cX8_fill 9 = .ok (.lconst 0, 1) := by decide +kernel
theorem dX8_fill_10 : decode cX8_fill 10 = .ok (.lconst 1, 1) := by decide +kernel
theorem dX8_fill_11 : decode cX8_fill 11 = .ok (.invokestatic 58, 3) := by decide +kernel
theorem dX8_fill_14 : decode cX8_fill 14 = .ok (.ifCond .eq 25, 3) := by decide +kernel
theorem dX8_fill_17 : decode cX8_fill 17 = .ok (.iload_n 3, 1) := by decide +kernel
theorem dX8_fill_18 : decode cX8_fill 18 = .ok (.i2l, 1) := by decide +kernel
theorem dX8_fill_19 : decode cX8_fill 19 = .ok (.lconst 0, 1) := by decide +kernel
theorem dX8_fill_20 : decode cX8_fill 20 = .ok (.iload_n 2, 1) := by decide +kernel
theorem dX8_fill_21 : decode cX8_fill 21 = .ok (.ifCond .ne 9, 3) := by decide +kernel
theorem dX8_fill_24 : decode cX8_fill 24 = .ok (.ldc2_w 89, 3) := by decide +kernel
theorem dX8_fill_27 : decode cX8_fill 27 = .ok (.goto 6, 3) := by decide +kernel
theorem dX8_fill_30 : decode cX8_fill 30 = .ok (.ldc2_w 91, 3) := by decide +kernel
theorem dX8_fill_33 : decode cX8_fill 33 = .ok (.invokestatic 58, 3) := by decide +kernel
theorem dX8_fill_36 : decode cX8_fill 36 = .ok (.ifCond .ne 9, 3) := by decide +kernel
theorem dX8_fill_39 : decode cX8_fill 39 = .ok (.aload_n 0, 1) := by decide +kernel
theorem dX8_fill_40 : decode cX8_fill 40 = .ok (.iconst 0, 1) := by decide +kernel
theorem dX8_fill_41 : decode cX8_fill 41 = .ok (.invokevirtual 93, 3) := by decide +kernel
theorem dX8_fill_44 : decode cX8_fill 44 = .ok (.ireturn, 1) := by decide +kernel
theorem dX8_fill_45 : decode cX8_fill 45 = .ok (.aload_n 0, 1) := by decide +kernel
theorem dX8_fill_46 : decode cX8_fill 46 = .ok (.iload_n 2, 1) := by decide +kernel
theorem dX8_fill_47 : decode cX8_fill 47 = .ok (.ifCond .ne 8, 3) := by decide +kernel
theorem dX8_fill_50 : decode cX8_fill 50 = .ok (.bipush 9, 2) := by decide +kernel
theorem dX8_fill_52 : decode cX8_fill 52 = .ok (.goto 5, 3) := by decide +kernel
theorem dX8_fill_55 : decode cX8_fill 55 = .ok (.bipush 57, 2) := by decide +kernel
theorem dX8_fill_57 : decode cX8_fill 57 = .ok (.iload_n 1, 1) := by decide +kernel
theorem dX8_fill_58 : decode cX8_fill 58 = .ok (.iadd, 1) := by decide +kernel
theorem dX8_fill_59 : decode cX8_fill 59 = .ok (.iload_n 3, 1) := by decide +kernel
theorem dX8_fill_60 : decode cX8_fill 60 = .ok (.invokevirtual 96, 3) := by decide +kernel
theorem dX8_fill_63 : decode cX8_fill 63 = .ok (.ireturn, 1) := by decide +kernel
set_option maxRecDepth 20000 in
theorem ggX8_manyAt_X8_its : GoodIn wsX8_manyAt wsX8_its := goodIn_r _ [6, 1, 7, 8, 9, 10, 11, 12, 13, 14, 15, 16, 17, 18, 19, 20, 21, 22, 23, 24, 25, 26] (by decide +kernel) (by decide +kernel)
set_option maxRecDepth 20000 in
theorem gX8_manyAt_X8_its : GoodIn wsX8_manyAt (wsV RX8 99 RX8 yX8_its wsX8_its) := goodIn_app (goodIn_of _ (by decide +kernel)) ggX8_manyAt_X8_its
theorem dX8_manyAt_0 : decode cX8_manyAt 0 = .ok (.iconst 0, 1) := by decide +kernel
theorem dX8_manyAt_1 : decode cX8_manyAt 1 = .ok (.istore_n 2, 1) := by decide +kernel
theorem dX8_manyAt_2 : decode cX8_manyAt 2 = .ok (.iconst 0, 1) := by decide +kernel
theorem dX8_manyAt_3 : decode cX8_manyAt 3 = .ok (.istore_n 3, 1) := by decide +kernel
theorem dX8_manyAt_4 : decode cX8_manyAt 4 = .ok (.iload_n 3, 1) := by decide +kernel
theorem dX8_manyAt_5 : decode cX8_manyAt 5 = .ok (.aload_n 0, 1) := by decide +kernel
theorem dX8_manyAt_6 : decode cX8_manyAt 6 = .ok (.getfield 9, 3) := by decide +kernel
theorem dX8_manyAt_9 : decode cX8_manyAt 9 = .ok (.iconst 1, 1) := by decide +kernel
theorem dX8_manyAt_10 : decode cX8_manyAt 10 = .ok (.iaload, 1) := by decide +kernel
theorem dX8_manyAt_11 : decode cX8_manyAt 11 = .ok (.if_icmp .ge 27, 3) := by decide +kernel
theorem dX8_manyAt_14 : decode cX8_manyAt 14 = .ok (.iload_n 2, 1) := by decide +kernel
theorem dX8_manyAt_15 : decode cX8_manyAt 15 = .ok (.aload_n 0, 1) := by decide +kernel
theorem dX8_manyAt_16 : decode cX8_manyAt 16 = .ok (.iload_n 3, 1) := by decide +kernel
theorem dX8_manyAt_17 : decode cX8_manyAt 17 = .ok (.iconst 1, 1) := by decide +kernel
theorem dX8_manyAt_18 : decode cX8_manyAt 18 = .ok (.invokevirtual 99, 3) := by decide +kernel
theorem dX8_manyAt_21 : decode cX8_manyAt 21 = .ok (.iload_n 1, 1) := by decide +kernel
theorem dX8_manyAt_22 : decode cX8_manyAt 22 = .ok (.if_icmp .ne 7, 3) := by decide +kernel
theorem dX8_manyAt_25 : decode cX8_manyAt 25 = .ok (.iconst 1, 1) := by decide +kernel
theorem dX8_manyAt_26 : decode cX8_manyAt 26 = .ok (.goto 4, 3) := by decide +kernel
theorem dX8_manyAt_29 : decode cX8_manyAt 29 = .ok (.iconst 0, 1) := by decide +kernel
theorem dX8_manyAt_30 : decode cX8_manyAt 30 = .ok (.iadd, 1) := by decide +kernel
theorem dX8_manyAt_31 : decode cX8_manyAt 31 = .ok (.istore_n 2, 1) := by decide +kernel
theorem dX8_manyAt_32 : decode cX8_manyAt 32 = .ok (.iinc 3 1, 3) := by decide +kernel
theorem dX8_manyAt_35 : decode cX8_manyAt 35 = .ok (.goto (-31), 3) := by decide +kernel
theorem dX8_manyAt_38 : decode cX8_manyAt 38 = .ok (.iload_n 2, 1) := by decide +kernel
theorem dX8_manyAt_39 : decode cX8_manyAt 39 = .ok (.ireturn, 1) := by decide +kernel
set_option maxRecDepth 20000 in
theorem ggX8_cell_X8_isCell : GoodIn wsX8_cell wsX8_isCell := goodIn_r _ [6, 7, 8, 9, 5, 10] (by decide +kernel) (by decide +kernel)
set_option maxRecDepth 20000 in
theorem gX8_cell_X8_isCell : GoodIn wsX8_cell (va_wsS RX8 85 yX8_isCell wsX8_isCell) := goodIn_app (goodIn_of _ (by decide +kernel)) ggX8_cell_X8_isCell
set_option maxRecDepth 20000 in
theorem ggX8_cell_X8_in : GoodIn wsX8_cell wsX8_in := goodIn_r _ [10] (by decide +kernel) (by decide +kernel)
set_option maxRecDepth 20000 in
theorem gX8_cell_X8_in : GoodIn wsX8_cell (va_wsS RX8 58 yX8_in wsX8_in) := goodIn_app (goodIn_of _ (by decide +kernel)) ggX8_cell_X8_in
set_option maxRecDepth 20000 in
theorem ggX8_cell_X8_finds : GoodIn wsX8_cell wsX8_finds := goodIn_r _ [14, 15, 16, 40, 41, 42, 43, 44, 45, 46, 47, 48, 49, 50, 51, 52, 53, 54, 55, 56, 57, 58, 59] (by decide +kernel) (by decide +kernel)
set_option maxRecDepth 20000 in
theorem gX8_cell_X8_finds : GoodIn wsX8_cell (wsV RX8 93 RX8 yX8_finds wsX8_finds) := goodIn_app (goodIn_of _ (by decide +kernel)) ggX8_cell_X8_finds
set_option maxRecDepth 20000 in
theorem ggX8_cell_X8_seenBy : GoodIn wsX8_cell wsX8_seenBy := goodIn_r _ [20, 2, 21, 22, 23, 5, 24, 25, 26, 27, 28, 29, 30, 31, 40, 41, 42, 43, 44, 45, 46, 47, 48, 49, 50, 51, 52, 53, 54, 55, 56, 57, 58, 59] (by decide +kernel) (by decide +kernel)
set_option maxRecDepth 20000 in
theorem gX8_cell_X8_seenBy : GoodIn wsX8_cell (wsV RX8 78 RX8 yX8_seenBy wsX8_seenBy) := goodIn_app (goodIn_of _ (by decide +kernel)) ggX8_cell_X8_seenBy
set_option maxRecDepth 20000 in
theorem ggX8_cell_X8_manyAt : GoodIn wsX8_cell wsX8_manyAt := goodIn_r _ [35, 2, 36, 37, 38, 5, 39, 40, 41, 42, 43, 44, 45, 46, 47, 48, 49, 50, 51, 52, 53, 54, 55, 56, 57, 58, 59] (by decide +kernel) (by decide +kernel)
set_option maxRecDepth 20000 in
theorem gX8_cell_X8_manyAt : GoodIn wsX8_cell (wsV RX8 102 RX8 yX8_manyAt wsX8_manyAt) := goodIn_app (goodIn_of _ (by decide +kernel)) ggX8_cell_X8_manyAt
theorem dX8_cell_0 : decode cX8_cell 0 = .ok (.iload_n 1, 1) := by decide +kernel
theorem dX8_cell_1 : decode cX8_cell 1 = .ok (.invokestatic 85, 3) := by decide +kernel
theorem dX8_cell_4 : decode cX8_cell 4 = .ok (.ifCond .eq 15, 3) := by decide +kernel
theorem dX8_cell_7 : decode cX8_cell 7 = .ok (.iload_n 2, 1) := by decide +kernel
theorem dX8_cell_8 : decode cX8_cell 8 = .ok (.i2l, 1) := by decide +kernel
theorem dX8_cell_9 : decode cX8_cell 9 = .ok (.lconst 0, 1) := by decide +kernel
theorem dX8_cell_10 : decode cX8_cell 10 = .ok (.ldc2_w 62, 3) := by decide +kernel
theorem dX8_cell_13 : decode cX8_cell 13 = .ok (.invokestatic 58, 3) := by decide +kernel
theorem dX8_cell_16 : decode cX8_cell 16 = .ok (.ifCond .ne 9, 3) := by decide +kernel
theorem dX8_cell_19 : decode cX8_cell 19 = .ok (.aload_n 0, 1) := by decide +kernel
theorem dX8_cell_20 : decode cX8_cell 20 = .ok (.iconst 0, 1) := by decide +kernel
theorem dX8_cell_21 : decode cX8_cell 21 = .ok (.invokevirtual 93, 3) := by decide +kernel
theorem dX8_cell_24 : decode cX8_cell 24 = .ok (.ireturn, 1) := by decide +kernel
theorem dX8_cell_25 : decode cX8_cell 25 = .ok (.iload_n 2, 1) := by decide +kernel
theorem dX8_cell_26 : decode cX8_cell 26 = .ok (.ifCond .ne 15, 3) := by decide +kernel
theorem dX8_cell_29 : decode cX8_cell 29 = .ok (.aload_n 0, 1) := by decide +kernel
theorem dX8_cell_30 : decode cX8_cell 30 = .ok (.getfield 9, 3) := by decide +kernel
theorem dX8_cell_33 : decode cX8_cell 33 = .ok (.bipush 9, 2) := by decide +kernel
theorem dX8_cell_35 : decode cX8_cell 35 = .ok (.iload_n 1, 1) := by decide +kernel
theorem dX8_cell_36 : decode cX8_cell 36 = .ok (.iadd, 1) := by decide +kernel
theorem dX8_cell_37 : decode cX8_cell 37 = .ok (.iaload, 1) := by decide +kernel
theorem dX8_cell_38 : decode cX8_cell 38 = .ok (.goto 38, 3) := by decide +kernel
theorem dX8_cell_41 : decode cX8_cell 41 = .ok (.iload_n 2, 1) := by decide +kernel
theorem dX8_cell_42 : decode cX8_cell 42 = .ok (.iconst 1, 1) := by decide +kernel
theorem dX8_cell_43 : decode cX8_cell 43 = .ok (.if_icmp .ne 15, 3) := by decide +kernel
theorem dX8_cell_46 : decode cX8_cell 46 = .ok (.aload_n 0, 1) := by decide +kernel
theorem dX8_cell_47 : decode cX8_cell 47 = .ok (.getfield 9, 3) := by decide +kernel
theorem dX8_cell_50 : decode cX8_cell 50 = .ok (.bipush 57, 2) := by decide +kernel
theorem dX8_cell_52 : decode cX8_cell 52 = .ok (.iload_n 1, 1) := by decide +kernel
theorem dX8_cell_53 : decode cX8_cell 53 = .ok (.iadd, 1) := by decide +kernel
theorem dX8_cell_54 : decode cX8_cell 54 = .ok (.iaload, 1) := by decide +kernel
theorem dX8_cell_55 : decode cX8_cell 55 = .ok (.goto 21, 3) := by decide +kernel
theorem dX8_cell_58 : decode cX8_cell 58 = .ok (.iload_n 2, 1) := by decide +kernel
theorem dX8_cell_59 : decode cX8_cell 59 = .ok (.iconst 2, 1) := by decide +kernel
theorem dX8_cell_60 : decode cX8_cell 60 = .ok (.if_icmp .ne 11, 3) := by decide +kernel
theorem dX8_cell_63 : decode cX8_cell 63 = .ok (.aload_n 0, 1) := by decide +kernel
theorem dX8_cell_64 : decode cX8_cell 64 = .ok (.iload_n 1, 1) := by decide +kernel
theorem dX8_cell_65 : decode cX8_cell 65 = .ok (.invokevirtual 78, 3) := by decide +kernel
theorem dX8_cell_68 : decode cX8_cell 68 = .ok (.goto 8, 3) := by decide +kernel
theorem dX8_cell_71 : decode cX8_cell 71 = .ok (.aload_n 0, 1) := by decide +kernel
theorem dX8_cell_72 : decode cX8_cell 72 = .ok (.iload_n 1, 1) := by decide +kernel
theorem dX8_cell_73 : decode cX8_cell 73 = .ok (.invokevirtual 102, 3) := by decide +kernel
theorem dX8_cell_76 : decode cX8_cell 76 = .ok (.ireturn, 1) := by decide +kernel
set_option maxRecDepth 20000 in
theorem ggX8_guard_X8_isGuard : GoodIn wsX8_guard wsX8_isGuard := goodIn_r _ [6, 7, 8, 9, 5, 10] (by decide +kernel) (by decide +kernel)
set_option maxRecDepth 20000 in
theorem gX8_guard_X8_isGuard : GoodIn wsX8_guard (va_wsS RX8 105 yX8_isGuard wsX8_isGuard) := goodIn_app (goodIn_of _ (by decide +kernel)) ggX8_guard_X8_isGuard
set_option maxRecDepth 20000 in
theorem ggX8_guard_X8_in : GoodIn wsX8_guard wsX8_in := goodIn_r _ [10] (by decide +kernel) (by decide +kernel)
set_option maxRecDepth 20000 in
theorem gX8_guard_X8_in : GoodIn wsX8_guard (va_wsS RX8 58 yX8_in wsX8_in) := goodIn_app (goodIn_of _ (by decide +kernel)) ggX8_guard_X8_in
set_option maxRecDepth 20000 in
theorem ggX8_guard_X8_becomes : GoodIn wsX8_guard wsX8_becomes := goodIn_r _ [14, 15, 22, 23, 24, 25, 26, 27, 28, 29, 30, 31, 32, 33, 34, 35, 36, 37, 38, 39, 40, 41] (by decide +kernel) (by decide +kernel)
set_option maxRecDepth 20000 in
theorem gX8_guard_X8_becomes : GoodIn wsX8_guard (wsV RX8 96 RX8 yX8_becomes wsX8_becomes) := goodIn_app (goodIn_of _ (by decide +kernel)) ggX8_guard_X8_becomes
set_option maxRecDepth 20000 in
theorem ggX8_guard_X8_finds : GoodIn wsX8_guard wsX8_finds := goodIn_r _ [19, 20, 21, 22, 23, 24, 25, 26, 27, 28, 29, 30, 31, 32, 33, 34, 35, 36, 37, 38, 39, 40, 41] (by decide +kernel) (by decide +kernel)
set_option maxRecDepth 20000 in
theorem gX8_guard_X8_finds : GoodIn wsX8_guard (wsV RX8 93 RX8 yX8_finds wsX8_finds) := goodIn_app (goodIn_of _ (by decide +kernel)) ggX8_guard_X8_finds
theorem dX8_guard_0 : decode cX8_guard 0 = .ok (.iload_n 1, 1) := by decide +kernel
theorem dX8_guard_1 : decode cX8_guard 1 = .ok (.invokestatic 105, 3) := by decide +kernel
theorem dX8_guard_4 : decode cX8_guard 4 = .ok (.ifCond .eq 28, 3) := by decide +kernel
theorem dX8_guard_7 : decode cX8_guard 7 = .ok (.iload_n 2, 1) := by decide +kernel
theorem dX8_guard_8 : decode cX8_guard 8 = .ok (.i2l, 1) := by decide +kernel
theorem dX8_guard_9 : decode cX8_guard 9 = .ok (.ldc2_w 108, 3) := by decide +kernel
theorem dX8_guard_12 : decode cX8_guard 12 = .ok (.ldc2_w 56, 3) := by decide +kernel
theorem dX8_guard_15 : decode cX8_guard 15 = .ok (.invokestatic 58, 3) := by decide +kernel
theorem dX8_guard_18 : decode cX8_guard 18 = .ok (.ifCond .eq 14, 3) := by decide +kernel
theorem dX8_guard_21 : decode cX8_guard 21 = .ok (.aload_n 0, 1) := by decide +kernel
theorem dX8_guard_22 : decode cX8_guard 22 = .ok (.iconst 5, 1) := by decide +kernel
theorem dX8_guard_23 : decode cX8_guard 23 = .ok (.iload_n 1, 1) := by decide +kernel
theorem dX8_guard_24 : decode cX8_guard 24 = .ok (.iadd, 1) := by decide +kernel
theorem dX8_guard_25 : decode cX8_guard 25 = .ok (.iload_n 2, 1) := by decide +kernel
theorem dX8_guard_26 : decode cX8_guard 26 = .ok (.invokevirtual 96, 3) := by decide +kernel
theorem dX8_guard_29 : decode cX8_guard 29 = .ok (.goto 8, 3) := by decide +kernel
theorem dX8_guard_32 : decode cX8_guard 32 = .ok (.aload_n 0, 1) := by decide +kernel
theorem dX8_guard_33 : decode cX8_guard 33 = .ok (.iconst 0, 1) := by decide +kernel
theorem dX8_guard_34 : decode cX8_guard 34 = .ok (.invokevirtual 93, 3) := by decide +kernel
theorem dX8_guard_37 : decode cX8_guard 37 = .ok (.ireturn, 1) := by decide +kernel
set_option maxRecDepth 20000 in
theorem ggX8_sight_X8_in : GoodIn wsX8_sight wsX8_in := goodIn_r _ [5] (by decide +kernel) (by decide +kernel)
set_option maxRecDepth 20000 in
theorem gX8_sight_X8_in : GoodIn wsX8_sight (va_wsS RX8 58 yX8_in wsX8_in) := goodIn_app (goodIn_of _ (by decide +kernel)) ggX8_sight_X8_in
set_option maxRecDepth 20000 in
theorem ggX8_sight_X8_becomes : GoodIn wsX8_sight wsX8_becomes := goodIn_r _ [9, 10, 17, 18, 19, 20, 21, 22, 23, 24, 25, 26, 27, 28, 29, 30, 31, 32, 33, 34, 35, 36] (by decide +kernel) (by decide +kernel)
set_option maxRecDepth 20000 in
theorem gX8_sight_X8_becomes : GoodIn wsX8_sight (wsV RX8 96 RX8 yX8_becomes wsX8_becomes) := goodIn_app (goodIn_of _ (by decide +kernel)) ggX8_sight_X8_becomes
set_option maxRecDepth 20000 in
theorem ggX8_sight_X8_finds : GoodIn wsX8_sight wsX8_finds := goodIn_r _ [14, 15, 16, 17, 18, 19, 20, 21, 22, 23, 24, 25, 26, 27, 28, 29, 30, 31, 32, 33, 34, 35, 36] (by decide +kernel) (by decide +kernel)
set_option maxRecDepth 20000 in
theorem gX8_sight_X8_finds : GoodIn wsX8_sight (wsV RX8 93 RX8 yX8_finds wsX8_finds) := goodIn_app (goodIn_of _ (by decide +kernel)) ggX8_sight_X8_finds
theorem dX8_sight_0 : decode cX8_sight 0 = .ok (.iload_n 1, 1) := by decide +kernel
theorem dX8_sight_1 : decode cX8_sight 1 = .ok (.i2l, 1) := by decide +kernel
theorem dX8_sight_2 : decode cX8_sight 2 = .ok (.lconst 0, 1) := by decide +kernel
theorem dX8_sight_3 : decode cX8_sight 3 = .ok (.ldc2_w 110, 3) := by decide +kernel
theorem dX8_sight_6 : decode cX8_sight 6 = .ok (.invokestatic 58, 3) := by decide +kernel
theorem dX8_sight_9 : decode cX8_sight 9 = .ok (.ifCond .eq 12, 3) := by decide +kernel
theorem dX8_sight_12 : decode cX8_sight 12 = .ok (.aload_n 0, 1) := by decide +kernel
theorem dX8_sight_13 : decode cX8_sight 13 = .ok (.iconst 2, 1) := by decide +kernel
theorem dX8_sight_14 : decode cX8_sight 14 = .ok (.iload_n 1, 1) := by decide +kernel
theorem dX8_sight_15 : decode cX8_sight 15 = .ok (.invokevirtual 96, 3) := by decide +kernel
theorem dX8_sight_18 : decode cX8_sight 18 = .ok (.goto 8, 3) := by decide +kernel
theorem dX8_sight_21 : decode cX8_sight 21 = .ok (.aload_n 0, 1) := by decide +kernel
theorem dX8_sight_22 : decode cX8_sight 22 = .ok (.iconst 0, 1) := by decide +kernel
theorem dX8_sight_23 : decode cX8_sight 23 = .ok (.invokevirtual 93, 3) := by decide +kernel
theorem dX8_sight_26 : decode cX8_sight 26 = .ok (.ireturn, 1) := by decide +kernel
theorem dX8_aboveOf_0 : decode cX8_aboveOf 0 = .ok (.iload_n 0, 1) := by decide +kernel
theorem dX8_aboveOf_1 : decode cX8_aboveOf 1 = .ok (.iconst 3, 1) := by decide +kernel
theorem dX8_aboveOf_2 : decode cX8_aboveOf 2 = .ok (.if_icmp .ne 7, 3) := by decide +kernel
theorem dX8_aboveOf_5 : decode cX8_aboveOf 5 = .ok (.iconst 2, 1) := by decide +kernel
theorem dX8_aboveOf_6 : decode cX8_aboveOf 6 = .ok (.goto 23, 3) := by decide +kernel
theorem dX8_aboveOf_9 : decode cX8_aboveOf 9 = .ok (.iload_n 0, 1) := by decide +kernel
theorem dX8_aboveOf_10 : decode cX8_aboveOf 10 = .ok (.iconst 4, 1) := by decide +kernel
theorem dX8_aboveOf_11 : decode cX8_aboveOf 11 = .ok (.if_icmp .ne 7, 3) := by decide +kernel
theorem dX8_aboveOf_14 : decode cX8_aboveOf 14 = .ok (.iconst 3, 1) := by decide +kernel
theorem dX8_aboveOf_15 : decode cX8_aboveOf 15 = .ok (.goto 14, 3) := by decide +kernel
theorem dX8_aboveOf_18 : decode cX8_aboveOf 18 = .ok (.iload_n 0, 1) := by decide +kernel
theorem dX8_aboveOf_19 : decode cX8_aboveOf 19 = .ok (.bipush 6, 2) := by decide +kernel
theorem dX8_aboveOf_21 : decode cX8_aboveOf 21 = .ok (.if_icmp .ne 7, 3) := by decide +kernel
theorem dX8_aboveOf_24 : decode cX8_aboveOf 24 = .ok (.iconst 1, 1) := by decide +kernel
theorem dX8_aboveOf_25 : decode cX8_aboveOf 25 = .ok (.goto 4, 3) := by decide +kernel
theorem dX8_aboveOf_28 : decode cX8_aboveOf 28 = .ok (.iconst 0, 1) := by decide +kernel
theorem dX8_aboveOf_29 : decode cX8_aboveOf 29 = .ok (.ireturn, 1) := by decide +kernel
set_option maxRecDepth 20000 in
theorem ggX8_isUnder_X8_aboveOf : GoodIn wsX8_isUnder wsX8_aboveOf := goodIn_r _ [4] (by decide +kernel) (by decide +kernel)
set_option maxRecDepth 20000 in
theorem gX8_isUnder_X8_aboveOf : GoodIn wsX8_isUnder (va_wsS RX8 112 yX8_aboveOf wsX8_aboveOf) := goodIn_app (goodIn_of _ (by decide +kernel)) ggX8_isUnder_X8_aboveOf
theorem dX8_isUnder_0 : decode cX8_isUnder 0 = .ok (.iload_n 0, 1) := by decide +kernel
theorem dX8_isUnder_1 : decode cX8_isUnder 1 = .ok (.istore_n 2, 1) := by decide +kernel
theorem dX8_isUnder_2 : decode cX8_isUnder 2 = .ok (.iload_n 2, 1) := by decide +kernel
theorem dX8_isUnder_3 : decode cX8_isUnder 3 = .ok (.ifCond .eq 16, 3) := by decide +kernel
theorem dX8_isUnder_6 : decode cX8_isUnder 6 = .ok (.iload_n 2, 1) := by decide +kernel
theorem dX8_isUnder_7 : decode cX8_isUnder 7 = .ok (.iload_n 1, 1) := by decide +kernel
theorem dX8_isUnder_8 : decode cX8_isUnder 8 = .ok (.if_icmp .eq 11, 3) := by decide +kernel
theorem dX8_isUnder_11 : decode cX8_isUnder 11 = .ok (.iload_n 2, 1) := by decide +kernel
theorem dX8_isUnder_12 : decode cX8_isUnder 12 = .ok (.invokestatic 112, 3) := by decide +kernel
theorem dX8_isUnder_15 : decode cX8_isUnder 15 = .ok (.istore_n 2, 1) := by decide +kernel
theorem dX8_isUnder_16 : decode cX8_isUnder 16 = .ok (.goto (-14), 3) := by decide +kernel
theorem dX8_isUnder_19 : decode cX8_isUnder 19 = .ok (.iload_n 2, 1) := by decide +kernel
theorem dX8_isUnder_20 : decode cX8_isUnder 20 = .ok (.iload_n 1, 1) := by decide +kernel
theorem dX8_isUnder_21 : decode cX8_isUnder 21 = .ok (.if_icmp .ne 7, 3) := by decide +kernel
theorem dX8_isUnder_24 : decode cX8_isUnder 24 = .ok (.iconst 1, 1) := by decide +kernel
theorem dX8_isUnder_25 : decode cX8_isUnder 25 = .ok (.goto 4, 3) := by decide +kernel
theorem dX8_isUnder_28 : decode cX8_isUnder 28 = .ok (.iconst 0, 1) := by decide +kernel
theorem dX8_isUnder_29 : decode cX8_isUnder 29 = .ok (.ireturn, 1) := by decide +kernel
set_option maxRecDepth 20000 in
theorem ggX8_isKind_X8_in : GoodIn wsX8_isKind wsX8_in := goodIn_r _ [5] (by decide +kernel) (by decide +kernel)
set_option maxRecDepth 20000 in
theorem gX8_isKind_X8_in : GoodIn wsX8_isKind (va_wsS RX8 58 yX8_in wsX8_in) := goodIn_app (goodIn_of _ (by decide +kernel)) ggX8_isKind_X8_in
theorem dX8_isKind_0 : decode cX8_isKind 0 = .ok (.iload_n 0, 1) := by decide +kernel
theorem dX8_isKind_1 : decode cX8_isKind 1 = .ok (.i2l, 1) := by decide +kernel
theorem dX8_isKind_2 : decode cX8_isKind 2 = .ok (.lconst 0, 1) := by decide +kernel
theorem dX8_isKind_3 : decode cX8_isKind 3 = .ok (.ldc2_w 115, 3) := by decide +kernel
theorem dX8_isKind_6 : decode cX8_isKind 6 = .ok (.invokestatic 58, 3) := by decide +kernel
theorem dX8_isKind_9 : decode cX8_isKind 9 = .ok (.ireturn, 1) := by decide +kernel
set_option maxRecDepth 20000 in
theorem ggX8_isIn_X8_its : GoodIn wsX8_isIn wsX8_its := goodIn_r _ [5, 6, 7, 8, 9, 10, 11, 12, 13, 14, 15, 16, 17, 18, 19, 20, 21, 22, 23, 24, 25, 26] (by decide +kernel) (by decide +kernel)
set_option maxRecDepth 20000 in
theorem gX8_isIn_X8_its : GoodIn wsX8_isIn (wsV RX8 99 RX8 yX8_its wsX8_its) := goodIn_app (goodIn_of _ (by decide +kernel)) ggX8_isIn_X8_its
theorem dX8_isIn_0 : decode cX8_isIn 0 = .ok (.aload_n 0, 1) := by decide +kernel
theorem dX8_isIn_1 : decode cX8_isIn 1 = .ok (.iload_n 1, 1) := by decide +kernel
theorem dX8_isIn_2 : decode cX8_isIn 2 = .ok (.iconst 1, 1) := by decide +kernel
theorem dX8_isIn_3 : decode cX8_isIn 3 = .ok (.invokevirtual 99, 3) := by decide +kernel
theorem dX8_isIn_6 : decode cX8_isIn 6 = .ok (.bipush 48, 2) := by decide +kernel
theorem dX8_isIn_8 : decode cX8_isIn 8 = .ok (.if_icmp .ge 7, 3) := by decide +kernel
theorem dX8_isIn_11 : decode cX8_isIn 11 = .ok (.iconst 1, 1) := by decide +kernel
theorem dX8_isIn_12 : decode cX8_isIn 12 = .ok (.goto 4, 3) := by decide +kernel
theorem dX8_isIn_15 : decode cX8_isIn 15 = .ok (.iconst 0, 1) := by decide +kernel
theorem dX8_isIn_16 : decode cX8_isIn 16 = .ok (.ireturn, 1) := by decide +kernel
set_option maxRecDepth 20000 in
theorem ggX8_nearer_X8_beside : GoodIn wsX8_nearer wsX8_beside := goodIn_r _ [4, 5, 6, 7, 8, 3, 9] (by decide +kernel) (by decide +kernel)
set_option maxRecDepth 20000 in
theorem gX8_nearer_X8_beside : GoodIn wsX8_nearer (va_wsS RX8 117 yX8_beside wsX8_beside) := goodIn_app (goodIn_of _ (by decide +kernel)) ggX8_nearer_X8_beside
set_option maxRecDepth 20000 in
theorem ggX8_nearer_X8_orOwn : GoodIn wsX8_nearer wsX8_orOwn := goodIn_r _ [12] (by decide +kernel) (by decide +kernel)
set_option maxRecDepth 20000 in
theorem gX8_nearer_X8_orOwn : GoodIn wsX8_nearer (va_wsS RX8 120 yX8_orOwn wsX8_orOwn) := goodIn_app (goodIn_of _ (by decide +kernel)) ggX8_nearer_X8_orOwn
theorem dX8_nearer_0 : decode cX8_nearer 0 = .ok (.iload_n 0, 1) := by decide +kernel
theorem dX8_nearer_1 : decode cX8_nearer 1 = .ok (.iload_n 1, 1) := by decide +kernel
theorem dX8_nearer_2 : decode cX8_nearer 2 = .ok (.ifCond .ne 7, 3) := by decide +kernel
theorem dX8_nearer_5 : decode cX8_nearer 5 = .ok (.iconst 4, 1) := by decide +kernel
theorem dX8_nearer_6 : decode cX8_nearer 6 = .ok (.goto 4, 3) := by decide +kernel
theorem dX8_nearer_9 : decode cX8_nearer 9 = .ok (.iconst 2, 1) := by decide +kernel
theorem dX8_nearer_10 : decode cX8_nearer 10 = .ok (.invokestatic 117, 3) := by decide +kernel
theorem dX8_nearer_13 : decode cX8_nearer 13 = .ok (.iload_n 0, 1) := by decide +kernel
theorem dX8_nearer_14 : decode cX8_nearer 14 = .ok (.invokestatic 120, 3) := by decide +kernel
theorem dX8_nearer_17 : decode cX8_nearer 17 = .ok (.ireturn, 1) := by decide +kernel
set_option maxRecDepth 20000 in
theorem ggX8_spied_X8_nearer : GoodIn wsX8_spied wsX8_nearer := goodIn_r _ [4, 5, 6, 3, 7, 8, 9, 10, 11, 12, 13, 14, 15] (by decide +kernel) (by decide +kernel)
set_option maxRecDepth 20000 in
theorem gX8_spied_X8_nearer : GoodIn wsX8_spied (va_wsS RX8 123 yX8_nearer wsX8_nearer) := goodIn_app (goodIn_of _ (by decide +kernel)) ggX8_spied_X8_nearer
set_option maxRecDepth 20000 in
theorem ggX8_spied_X8_isSeen : GoodIn wsX8_spied wsX8_isSeen := goodIn_r _ [19, 20, 21, 22, 3, 23, 24, 25, 26, 27, 28, 29, 30, 31, 32, 33, 34, 35, 36, 37, 38, 39, 40, 41, 42, 43, 44, 45, 46, 47, 48, 49, 50, 51, 52, 53, 54, 55] (by decide +kernel) (by decide +kernel)
set_option maxRecDepth 20000 in
theorem gX8_spied_X8_isSeen : GoodIn wsX8_spied (wsV RX8 126 RX8 yX8_isSeen wsX8_isSeen) := goodIn_app (goodIn_of _ (by decide +kernel)) ggX8_spied_X8_isSeen
theorem dX8_spied_0 : decode cX8_spied 0 = .ok (.iload_n 1, 1) := by decide +kernel
theorem dX8_spied_1 : decode cX8_spied 1 = .ok (.iload_n 2, 1) := by decide +kernel
theorem dX8_spied_2 : decode cX8_spied 2 = .ok (.invokestatic 123, 3) := by decide +kernel
theorem dX8_spied_5 : decode cX8_spied 5 = .ok (.istore_n 3, 1) := by decide +kernel
theorem dX8_spied_6 : decode cX8_spied 6 = .ok (.aload_n 0, 1) := by decide +kernel
theorem dX8_spied_7 : decode cX8_spied 7 = .ok (.iload_n 3, 1) := by decide +kernel
theorem dX8_spied_8 : decode cX8_spied 8 = .ok (.invokevirtual 126, 3) := by decide +kernel
theorem dX8_spied_11 : decode cX8_spied 11 = .ok (.ifCond .eq 7, 3) := by decide +kernel
theorem dX8_spied_14 : decode cX8_spied 14 = .ok (.iload_n 1, 1) := by decide +kernel
theorem dX8_spied_15 : decode cX8_spied 15 = .ok (.goto 4, 3) := by decide +kernel
theorem dX8_spied_18 : decode cX8_spied 18 = .ok (.iload_n 3, 1) := by decide +kernel
theorem dX8_spied_19 : decode cX8_spied 19 = .ok (.ireturn, 1) := by decide +kernel
set_option maxRecDepth 20000 in
theorem ggX8_general_X8_spied : GoodIn wsX8_general wsX8_spied := goodIn_r _ [5, 6, 7, 4, 8, 9, 10, 11, 12, 13, 14, 15, 16, 17, 18, 19, 20, 21, 22, 23, 24, 25, 26, 27, 28, 29, 30, 31, 32, 33, 34, 35, 36, 37, 38, 39, 40, 41, 42, 43, 44, 45, 46, 47, 48, 49, 50, 51, 52, 53, 54, 55, 56, 57, 58, 59] (by decide +kernel) (by decide +kernel)
set_option maxRecDepth 20000 in
theorem gX8_general_X8_spied : GoodIn wsX8_general (wsV RX8 129 RX8 yX8_spied wsX8_spied) := goodIn_app (goodIn_of _ (by decide +kernel)) ggX8_general_X8_spied
set_option maxRecDepth 20000 in
theorem ggX8_general_X8_beside : GoodIn wsX8_general wsX8_beside := goodIn_r _ [11, 12, 13, 14, 15, 4, 16] (by decide +kernel) (by decide +kernel)
set_option maxRecDepth 20000 in
theorem gX8_general_X8_beside : GoodIn wsX8_general (va_wsS RX8 117 yX8_beside wsX8_beside) := goodIn_app (goodIn_of _ (by decide +kernel)) ggX8_general_X8_beside
set_option maxRecDepth 20000 in
theorem ggX8_general_X8_isSeen : GoodIn wsX8_general wsX8_isSeen := goodIn_r _ [23, 24, 25, 26, 4, 27, 28, 29, 30, 31, 32, 33, 34, 35, 36, 37, 38, 39, 40, 41, 42, 43, 44, 45, 46, 47, 48, 49, 50, 51, 52, 53, 54, 55, 56, 57, 58, 59] (by decide +kernel) (by decide +kernel)
set_option maxRecDepth 20000 in
theorem gX8_general_X8_isSeen : GoodIn wsX8_general (wsV RX8 126 RX8 yX8_isSeen wsX8_isSeen) := goodIn_app (goodIn_of _ (by decide +kernel)) ggX8_general_X8_isSeen
theorem dX8_general_0 : decode cX8_general 0 = .ok (.aload_n 0, 1) := by decide +kernel
theorem dX8_general_1 : decode cX8_general 1 = .ok (.iload_n 1, 1) := by decide +kernel
theorem dX8_general_2 : decode cX8_general 2 = .ok (.iload_n 2, 1) := by decide +kernel
theorem dX8_general_3 : decode cX8_general 3 = .ok (.invokevirtual 129, 3) := by decide +kernel
theorem dX8_general_6 : decode cX8_general 6 = .ok (.istore_n 3, 1) := by decide +kernel
theorem dX8_general_7 : decode cX8_general 7 = .ok (.iload_n 1, 1) := by decide +kernel
theorem dX8_general_8 : decode cX8_general 8 = .ok (.iconst 3, 1) := by decide +kernel
theorem dX8_general_9 : decode cX8_general 9 = .ok (.invokestatic 117, 3) := by decide +kernel
theorem dX8_general_12 : decode cX8_general 12 = .ok (.istore 4, 2) := by decide +kernel
theorem dX8_general_14 : decode cX8_general 14 = .ok (.iload_n 3, 1) := by decide +kernel
theorem dX8_general_15 : decode cX8_general 15 = .ok (.iload_n 1, 1) := by decide +kernel
theorem dX8_general_16 : decode cX8_general 16 = .ok (.if_icmp .ne 22, 3) := by decide +kernel
theorem dX8_general_19 : decode cX8_general 19 = .ok (.iload 4, 2) := by decide +kernel
theorem dX8_general_21 : decode cX8_general 21 = .ok (.ifCond .lt 17, 3) := by decide +kernel
theorem dX8_general_24 : decode cX8_general 24 = .ok (.aload_n 0, 1) := by decide +kernel
theorem dX8_general_25 : decode cX8_general 25 = .ok (.iload 4, 2) := by decide +kernel
theorem dX8_general_27 : decode cX8_general 27 = .ok (.invokevirtual 126, 3) := by decide +kernel
theorem dX8_general_30 : decode cX8_general 30 = .ok (.ifCond .ne 8, 3) := by decide +kernel
theorem dX8_general_33 : decode cX8_general 33 = .ok (.iload 4, 2) := by decide +kernel
theorem dX8_general_35 : decode cX8_general 35 = .ok (.goto 4, 3) := by decide +kernel
theorem dX8_general_38 : decode cX8_general 38 = .ok (.iload_n 3, 1) := by decide +kernel
theorem dX8_general_39 : decode cX8_general 39 = .ok (.ireturn, 1) := by decide +kernel
set_option maxRecDepth 20000 in
theorem ggX8_floats_X8_beside : GoodIn wsX8_floats wsX8_beside := goodIn_r _ [5, 6, 7, 8, 9, 4, 10] (by decide +kernel) (by decide +kernel)
set_option maxRecDepth 20000 in
theorem gX8_floats_X8_beside : GoodIn wsX8_floats (va_wsS RX8 117 yX8_beside wsX8_beside) := goodIn_app (goodIn_of _ (by decide +kernel)) ggX8_floats_X8_beside
set_option maxRecDepth 20000 in
theorem ggX8_floats_X8_orOwn : GoodIn wsX8_floats wsX8_orOwn := goodIn_r _ [13] (by decide +kernel) (by decide +kernel)
set_option maxRecDepth 20000 in
theorem gX8_floats_X8_orOwn : GoodIn wsX8_floats (va_wsS RX8 120 yX8_orOwn wsX8_orOwn) := goodIn_app (goodIn_of _ (by decide +kernel)) ggX8_floats_X8_orOwn
theorem dX8_floats_0 : decode cX8_floats 0 = .ok (.iload_n 1, 1) := by decide +kernel
theorem dX8_floats_1 : decode cX8_floats 1 = .ok (.aload_n 0, 1) := by decide +kernel
theorem dX8_floats_2 : decode cX8_floats 2 = .ok (.getfield 9, 3) := by decide +kernel
theorem dX8_floats_5 : decode cX8_floats 5 = .ok (.bipush 57, 2) := by decide +kernel
theorem dX8_floats_7 : decode cX8_floats 7 = .ok (.iload_n 1, 1) := by decide +kernel
theorem dX8_floats_8 : decode cX8_floats 8 = .ok (.iadd, 1) := by decide +kernel
theorem dX8_floats_9 : decode cX8_floats 9 = .ok (.iaload, 1) := by decide +kernel
theorem dX8_floats_10 : decode cX8_floats 10 = .ok (.invokestatic 117, 3) := by decide +kernel
theorem dX8_floats_13 : decode cX8_floats 13 = .ok (.iload_n 1, 1) := by decide +kernel
theorem dX8_floats_14 : decode cX8_floats 14 = .ok (.invokestatic 120, 3) := by decide +kernel
theorem dX8_floats_17 : decode cX8_floats 17 = .ok (.ireturn, 1) := by decide +kernel
set_option maxRecDepth 20000 in
theorem ggX8_loves_X8_floats : GoodIn wsX8_loves wsX8_floats := goodIn_r _ [6, 1, 7, 8, 5, 9, 10, 11, 12, 13, 14, 15, 16, 17, 18, 19, 20, 21, 22, 23, 24, 25, 26, 27, 28, 29, 30, 31, 32, 33, 34, 35, 36, 37] (by decide +kernel) (by decide +kernel)
set_option maxRecDepth 20000 in
theorem gX8_loves_X8_floats : GoodIn wsX8_loves (wsV RX8 132 RX8 yX8_floats wsX8_floats) := goodIn_app (goodIn_of _ (by decide +kernel)) ggX8_loves_X8_floats
theorem dX8_loves_0 : decode cX8_loves 0 = .ok (.aload_n 0, 1) := by decide +kernel
theorem dX8_loves_1 : decode cX8_loves 1 = .ok (.getfield 9, 3) := by decide +kernel
theorem dX8_loves_4 : decode cX8_loves 4 = .ok (.bipush 57, 2) := by decide +kernel
theorem dX8_loves_6 : decode cX8_loves 6 = .ok (.iload_n 1, 1) := by decide +kernel
theorem dX8_loves_7 : decode cX8_loves 7 = .ok (.iadd, 1) := by decide +kernel
theorem dX8_loves_8 : decode cX8_loves 8 = .ok (.iaload, 1) := by decide +kernel
theorem dX8_loves_9 : decode cX8_loves 9 = .ok (.ifCond .le 9, 3) := by decide +kernel
theorem dX8_loves_12 : decode cX8_loves 12 = .ok (.aload_n 0, 1) := by decide +kernel
theorem dX8_loves_13 : decode cX8_loves 13 = .ok (.iload_n 1, 1) := by decide +kernel
theorem dX8_loves_14 : decode cX8_loves 14 = .ok (.invokevirtual 132, 3) := by decide +kernel
theorem dX8_loves_17 : decode cX8_loves 17 = .ok (.ireturn, 1) := by decide +kernel
theorem dX8_loves_18 : decode cX8_loves 18 = .ok (.iload_n 1, 1) := by decide +kernel
theorem dX8_loves_19 : decode cX8_loves 19 = .ok (.bipush 8, 2) := by decide +kernel
theorem dX8_loves_21 : decode cX8_loves 21 = .ok (.irem, 1) := by decide +kernel
theorem dX8_loves_22 : decode cX8_loves 22 = .ok (.istore_n 2, 1) := by decide +kernel
theorem dX8_loves_23 : decode cX8_loves 23 = .ok (.iload_n 2, 1) := by decide +kernel
theorem dX8_loves_24 : decode cX8_loves 24 = .ok (.iconst 3, 1) := by decide +kernel
theorem dX8_loves_25 : decode cX8_loves 25 = .ok (.if_icmp .ge 9, 3) := by decide +kernel
theorem dX8_loves_28 : decode cX8_loves 28 = .ok (.iload_n 1, 1) := by decide +kernel
theorem dX8_loves_29 : decode cX8_loves 29 = .ok (.iconst 1, 1) := by decide +kernel
theorem dX8_loves_30 : decode cX8_loves 30 = .ok (.iadd, 1) := by decide +kernel
theorem dX8_loves_31 : decode cX8_loves 31 = .ok (.goto 15, 3) := by decide +kernel
theorem dX8_loves_34 : decode cX8_loves 34 = .ok (.iload_n 2, 1) := by decide +kernel
theorem dX8_loves_35 : decode cX8_loves 35 = .ok (.iconst 4, 1) := by decide +kernel
theorem dX8_loves_36 : decode cX8_loves 36 = .ok (.if_icmp .le 9, 3) := by decide +kernel
theorem dX8_loves_39 : decode cX8_loves 39 = .ok (.iload_n 1, 1) := by decide +kernel
theorem dX8_loves_40 : decode cX8_loves 40 = .ok (.iconst 1, 1) := by decide +kernel
theorem dX8_loves_41 : decode cX8_loves 41 = .ok (.isub, 1) := by decide +kernel
theorem dX8_loves_42 : decode cX8_loves 42 = .ok (.goto 4, 3) := by decide +kernel
theorem dX8_loves_45 : decode cX8_loves 45 = .ok (.iload_n 1, 1) := by decide +kernel
theorem dX8_loves_46 : decode cX8_loves 46 = .ok (.ireturn, 1) := by decide +kernel
set_option maxRecDepth 20000 in
theorem ggX8_stepOf_X8_its : GoodIn wsX8_stepOf wsX8_its := goodIn_r _ [5, 6, 56, 57, 58, 59, 60, 61, 62, 63, 64, 65, 66, 67, 68, 69, 70, 71, 72, 73, 74, 75] (by decide +kernel) (by decide +kernel)
set_option maxRecDepth 20000 in
theorem gX8_stepOf_X8_its : GoodIn wsX8_stepOf (wsV RX8 99 RX8 yX8_its wsX8_its) := goodIn_app (goodIn_of _ (by decide +kernel)) ggX8_stepOf_X8_its
set_option maxRecDepth 20000 in
theorem ggX8_stepOf_X8_spied : GoodIn wsX8_stepOf wsX8_spied := goodIn_r _ [10, 11, 12, 4, 13, 14, 15, 16, 17, 18, 19, 20, 21, 22, 23, 24, 25, 26, 27, 28, 29, 30, 31, 32, 6, 33, 34, 35, 36, 37, 38, 39, 40, 41, 42, 43, 56, 57, 58, 59, 60, 61, 62, 63, 64, 65, 66, 67, 68, 69, 70, 71, 72, 73, 74, 75] (by decide +kernel) (by decide +kernel)
set_option maxRecDepth 20000 in
theorem gX8_stepOf_X8_spied : GoodIn wsX8_stepOf (wsV RX8 129 RX8 yX8_spied wsX8_spied) := goodIn_app (goodIn_of _ (by decide +kernel)) ggX8_stepOf_X8_spied
set_option maxRecDepth 20000 in
theorem ggX8_stepOf_X8_floats : GoodIn wsX8_stepOf wsX8_floats := goodIn_r _ [47, 6, 14, 15, 4, 16, 17, 18, 19, 20, 21, 22, 23, 24, 56, 57, 58, 59, 60, 61, 62, 63, 64, 65, 66, 67, 68, 69, 70, 71, 72, 73, 74, 75] (by decide +kernel) (by decide +kernel)
set_option maxRecDepth 20000 in
theorem gX8_stepOf_X8_floats : GoodIn wsX8_stepOf (wsV RX8 132 RX8 yX8_floats wsX8_floats) := goodIn_app (goodIn_of _ (by decide +kernel)) ggX8_stepOf_X8_floats
set_option maxRecDepth 20000 in
theorem ggX8_stepOf_X8_loves : GoodIn wsX8_stepOf wsX8_loves := goodIn_r _ [51, 6, 44, 45, 46, 4, 47, 14, 15, 16, 17, 18, 19, 20, 21, 22, 23, 24, 56, 57, 58, 59, 60, 61, 62, 63, 64, 65, 66, 67, 68, 69, 70, 71, 72, 73, 74, 75] (by decide +kernel) (by decide +kernel)
set_option maxRecDepth 20000 in
theorem gX8_stepOf_X8_loves : GoodIn wsX8_stepOf (wsV RX8 135 RX8 yX8_loves wsX8_loves) := goodIn_app (goodIn_of _ (by decide +kernel)) ggX8_stepOf_X8_loves
set_option maxRecDepth 20000 in
theorem ggX8_stepOf_X8_nearer : GoodIn wsX8_stepOf wsX8_nearer := goodIn_r _ [13, 14, 15, 4, 16, 17, 18, 19, 20, 21, 22, 23, 24] (by decide +kernel) (by decide +kernel)
set_option maxRecDepth 20000 in
theorem gX8_stepOf_X8_nearer : GoodIn wsX8_stepOf (va_wsS RX8 123 yX8_nearer wsX8_nearer) := goodIn_app (goodIn_of _ (by decide +kernel)) ggX8_stepOf_X8_nearer
set_option maxRecDepth 20000 in
theorem ggX8_stepOf_X8_general : GoodIn wsX8_stepOf wsX8_general := goodIn_r _ [55, 7, 8, 9, 4, 10, 11, 12, 13, 14, 15, 16, 17, 18, 19, 20, 21, 22, 23, 24, 25, 26, 27, 28, 29, 30, 31, 32, 6, 33, 34, 35, 36, 37, 38, 39, 40, 41, 42, 43, 56, 57, 58, 59, 60, 61, 62, 63, 64, 65, 66, 67, 68, 69, 70, 71, 72, 73, 74, 75] (by decide +kernel) (by decide +kernel)
set_option maxRecDepth 20000 in
theorem gX8_stepOf_X8_general : GoodIn wsX8_stepOf (wsV RX8 138 RX8 yX8_general wsX8_general) := goodIn_app (goodIn_of _ (by decide +kernel)) ggX8_stepOf_X8_general
theorem dX8_stepOf_0 : decode cX8_stepOf 0 = .ok (.aload_n 0, 1) := by decide +kernel
theorem dX8_stepOf_1 : decode cX8_stepOf 1 = .ok (.iload_n 1, 1) := by decide +kernel
theorem dX8_stepOf_2 : decode cX8_stepOf 2 = .ok (.iconst 1, 1) := by decide +kernel
theorem dX8_stepOf_3 : decode cX8_stepOf 3 = .ok (.invokevirtual 99, 3) := by decide +kernel
theorem dX8_stepOf_6 : decode cX8_stepOf 6 = .ok (.istore_n 2, 1) := by decide +kernel
theorem dX8_stepOf_7 : decode cX8_stepOf 7 = .ok (.aload_n 0, 1) := by decide +kernel
theorem dX8_stepOf_8 : decode cX8_stepOf 8 = .ok (.iload_n 1, 1) := by decide +kernel
theorem dX8_stepOf_9 : decode cX8_stepOf 9 = .ok (.iconst 2, 1) := by decide +kernel
theorem dX8_stepOf_10 : decode cX8_stepOf 10 = .ok (.invokevirtual 99, 3) := by decide +kernel
theorem dX8_stepOf_13 : decode cX8_stepOf 13 = .ok (.istore_n 3, 1) := by decide +kernel
theorem dX8_stepOf_14 : decode cX8_stepOf 14 = .ok (.aload_n 0, 1) := by decide +kernel
theorem dX8_stepOf_15 : decode cX8_stepOf 15 = .ok (.iload_n 1, 1) := by decide +kernel
theorem dX8_stepOf_16 : decode cX8_stepOf 16 = .ok (.iconst 0, 1) := by decide +kernel
theorem dX8_stepOf_17 : decode cX8_stepOf 17 = .ok (.invokevirtual 99, 3) := by decide +kernel
theorem dX8_stepOf_20 : decode cX8_stepOf 20 = .ok (.tableswitch 76 1 6 #[40, 47, 53, 53, 59, 69], 40) := by decide +kernel
theorem dX8_stepOf_60 : decode cX8_stepOf 60 = .ok (.aload_n 0, 1) := by decide +kernel
theorem dX8_stepOf_61 : decode cX8_stepOf 61 = .ok (.iload_n 2, 1) := by decide +kernel
theorem dX8_stepOf_62 : decode cX8_stepOf 62 = .ok (.iload_n 3, 1) := by decide +kernel
theorem dX8_stepOf_63 : decode cX8_stepOf 63 = .ok (.invokevirtual 129, 3) := by decide +kernel
theorem dX8_stepOf_66 : decode cX8_stepOf 66 = .ok (.ireturn, 1) := by decide +kernel
theorem dX8_stepOf_67 : decode cX8_stepOf 67 = .ok (.aload_n 0, 1) := by decide +kernel
theorem dX8_stepOf_68 : decode cX8_stepOf 68 = .ok (.iload_n 2, 1) := by decide +kernel
theorem dX8_stepOf_69 : decode cX8_stepOf 69 = .ok (.invokevirtual 132, 3) := by decide +kernel
theorem dX8_stepOf_72 : decode cX8_stepOf 72 = .ok (.ireturn, 1) := by decide +kernel
theorem dX8_stepOf_73 : decode cX8_stepOf 73 = .ok (.aload_n 0, 1) := by decide +kernel
theorem dX8_stepOf_74 : decode cX8_stepOf 74 = .ok (.iload_n 2, 1) := by decide +kernel
theorem dX8_stepOf_75 : decode cX8_stepOf 75 = .ok (.invokevirtual 135, 3) := by decide +kernel
theorem dX8_stepOf_78 : decode cX8_stepOf 78 = .ok (.ireturn, 1) := by decide +kernel
theorem dX8_stepOf_79 : decode cX8_stepOf 79 = .ok (.iload_n 2, 1) := by decide +kernel
theorem dX8_stepOf_80 : decode cX8_stepOf 80 = .ok (.iload_n 3, 1) := by decide +kernel
theorem dX8_stepOf_81 : decode cX8_stepOf 81 = .ok (.invokestatic 123, 3) := by decide +kernel
theorem dX8_stepOf_84 : decode cX8_stepOf 84 = .ok (.iload_n 3, 1) := by decide +kernel
theorem dX8_stepOf_85 : decode cX8_stepOf 85 = .ok (.invokestatic 123, 3) := by decide +kernel
theorem dX8_stepOf_88 : decode cX8_stepOf 88 = .ok (.ireturn, 1) := by decide +kernel
theorem dX8_stepOf_89 : decode cX8_stepOf 89 = .ok (.aload_n 0, 1) := by decide +kernel
theorem dX8_stepOf_90 : decode cX8_stepOf 90 = .ok (.iload_n 2, 1) := by decide +kernel
theorem dX8_stepOf_91 : decode cX8_stepOf 91 = .ok (.iload_n 3, 1) := by decide +kernel
theorem dX8_stepOf_92 : decode cX8_stepOf 92 = .ok (.invokevirtual 138, 3) := by decide +kernel
theorem dX8_stepOf_95 : decode cX8_stepOf 95 = .ok (.ireturn, 1) := by decide +kernel
theorem dX8_stepOf_96 : decode cX8_stepOf 96 = .ok (.iload_n 2, 1) := by decide +kernel
theorem dX8_stepOf_97 : decode cX8_stepOf 97 = .ok (.iload_n 3, 1) := by decide +kernel
theorem dX8_stepOf_98 : decode cX8_stepOf 98 = .ok (.invokestatic 123, 3) := by decide +kernel
theorem dX8_stepOf_101 : decode cX8_stepOf 101 = .ok (.ireturn, 1) := by decide +kernel
set_option maxRecDepth 20000 in
theorem ggX8_adds_X8_sets : GoodIn wsX8_adds wsX8_sets := goodIn_r _ [6, 1, 7, 8, 9, 10, 11, 12, 13, 14, 15, 16, 17, 18, 19, 20, 21, 22, 23, 24, 25, 26] (by decide +kernel) (by decide +kernel)
set_option maxRecDepth 20000 in
theorem gX8_adds_X8_sets : GoodIn wsX8_adds (wsV RX8 141 RX8 yX8_sets wsX8_sets) := goodIn_app (goodIn_of _ (by decide +kernel)) ggX8_adds_X8_sets
theorem dX8_adds_0 : decode cX8_adds 0 = .ok (.aload_n 0, 1) := by decide +kernel
theorem dX8_adds_1 : decode cX8_adds 1 = .ok (.getfield 9, 3) := by decide +kernel
theorem dX8_adds_4 : decode cX8_adds 4 = .ok (.iconst 1, 1) := by decide +kernel
theorem dX8_adds_5 : decode cX8_adds 5 = .ok (.iaload, 1) := by decide +kernel
theorem dX8_adds_6 : decode cX8_adds 6 = .ok (.istore_n 3, 1) := by decide +kernel
theorem dX8_adds_7 : decode cX8_adds 7 = .ok (.aload_n 0, 1) := by decide +kernel
theorem dX8_adds_8 : decode cX8_adds 8 = .ok (.getfield 9, 3) := by decide +kernel
theorem dX8_adds_11 : decode cX8_adds 11 = .ok (.iconst 1, 1) := by decide +kernel
theorem dX8_adds_12 : decode cX8_adds 12 = .ok (.dup2, 1) := by decide +kernel
theorem dX8_adds_13 : decode cX8_adds 13 = .ok (.iaload, 1) := by decide +kernel
theorem dX8_adds_14 : decode cX8_adds 14 = .ok (.iconst 1, 1) := by decide +kernel
theorem dX8_adds_15 : decode cX8_adds 15 = .ok (.iadd, 1) := by decide +kernel
theorem dX8_adds_16 : decode cX8_adds 16 = .ok (.iastore, 1) := by decide +kernel
theorem dX8_adds_17 : decode cX8_adds 17 = .ok (.aload_n 0, 1) := by decide +kernel
theorem dX8_adds_18 : decode cX8_adds 18 = .ok (.iload_n 3, 1) := by decide +kernel
theorem dX8_adds_19 : decode cX8_adds 19 = .ok (.iconst 0, 1) := by decide +kernel
theorem dX8_adds_20 : decode cX8_adds 20 = .ok (.iload_n 1, 1) := by decide +kernel
theorem dX8_adds_21 : decode cX8_adds 21 = .ok (.invokevirtual 141, 3) := by decide +kernel
theorem dX8_adds_24 : decode cX8_adds 24 = .ok (.aload_n 0, 1) := by decide +kernel
theorem dX8_adds_25 : decode cX8_adds 25 = .ok (.iload_n 3, 1) := by decide +kernel
theorem dX8_adds_26 : decode cX8_adds 26 = .ok (.iconst 1, 1) := by decide +kernel
theorem dX8_adds_27 : decode cX8_adds 27 = .ok (.iload_n 2, 1) := by decide +kernel
theorem dX8_adds_28 : decode cX8_adds 28 = .ok (.invokevirtual 141, 3) := by decide +kernel
theorem dX8_adds_31 : decode cX8_adds 31 = .ok (.aload_n 0, 1) := by decide +kernel
theorem dX8_adds_32 : decode cX8_adds 32 = .ok (.iload_n 3, 1) := by decide +kernel
theorem dX8_adds_33 : decode cX8_adds 33 = .ok (.iconst 2, 1) := by decide +kernel
theorem dX8_adds_34 : decode cX8_adds 34 = .ok (.iconst 0, 1) := by decide +kernel
theorem dX8_adds_35 : decode cX8_adds 35 = .ok (.invokevirtual 141, 3) := by decide +kernel
theorem dX8_adds_38 : decode cX8_adds 38 = .ok (.aload_n 0, 1) := by decide +kernel
theorem dX8_adds_39 : decode cX8_adds 39 = .ok (.iload_n 3, 1) := by decide +kernel
theorem dX8_adds_40 : decode cX8_adds 40 = .ok (.iconst 3, 1) := by decide +kernel
theorem dX8_adds_41 : decode cX8_adds 41 = .ok (.iconst 0, 1) := by decide +kernel
theorem dX8_adds_42 : decode cX8_adds 42 = .ok (.invokevirtual 141, 3) := by decide +kernel
theorem dX8_adds_45 : decode cX8_adds 45 = .ok (.aload_n 0, 1) := by decide +kernel
theorem dX8_adds_46 : decode cX8_adds 46 = .ok (.iload_n 3, 1) := by decide +kernel
theorem dX8_adds_47 : decode cX8_adds 47 = .ok (.iconst 4, 1) := by decide +kernel
theorem dX8_adds_48 : decode cX8_adds 48 = .ok (.iload_n 3, 1) := by decide +kernel
theorem dX8_adds_49 : decode cX8_adds 49 = .ok (.invokevirtual 141, 3) := by decide +kernel
theorem dX8_adds_52 : decode cX8_adds 52 = .ok (.iload_n 3, 1) := by decide +kernel
theorem dX8_adds_53 : decode cX8_adds 53 = .ok (.ireturn, 1) := by decide +kernel
set_option maxRecDepth 20000 in
theorem ggX8_bather_X8_isKind : GoodIn wsX8_bather wsX8_isKind := goodIn_r _ [5, 6, 7, 8, 4, 9] (by decide +kernel) (by decide +kernel)
set_option maxRecDepth 20000 in
theorem gX8_bather_X8_isKind : GoodIn wsX8_bather (va_wsS RX8 145 yX8_isKind wsX8_isKind) := goodIn_app (goodIn_of _ (by decide +kernel)) ggX8_bather_X8_isKind
set_option maxRecDepth 20000 in
theorem ggX8_bather_X8_isCell : GoodIn wsX8_bather wsX8_isCell := goodIn_r _ [12, 13, 7, 8, 4, 9] (by decide +kernel) (by decide +kernel)
set_option maxRecDepth 20000 in
theorem gX8_bather_X8_isCell : GoodIn wsX8_bather (va_wsS RX8 85 yX8_isCell wsX8_isCell) := goodIn_app (goodIn_of _ (by decide +kernel)) ggX8_bather_X8_isCell
set_option maxRecDepth 20000 in
theorem ggX8_bather_X8_finds : GoodIn wsX8_bather wsX8_finds := goodIn_r _ [17, 18, 19, 28, 29, 30, 31, 32, 33, 34, 35, 36, 37, 38, 39, 40, 41, 42, 43, 44, 45, 46, 47] (by decide +kernel) (by decide +kernel)
set_option maxRecDepth 20000 in
theorem gX8_bather_X8_finds : GoodIn wsX8_bather (wsV RX8 93 RX8 yX8_finds wsX8_finds) := goodIn_app (goodIn_of _ (by decide +kernel)) ggX8_bather_X8_finds
set_option maxRecDepth 20000 in
theorem ggX8_bather_X8_adds : GoodIn wsX8_bather wsX8_adds := goodIn_r _ [23, 1, 24, 25, 26, 4, 27, 28, 29, 30, 31, 32, 33, 34, 35, 36, 37, 38, 39, 40, 41, 42, 43, 44, 45, 46, 47] (by decide +kernel) (by decide +kernel)
set_option maxRecDepth 20000 in
theorem gX8_bather_X8_adds : GoodIn wsX8_bather (wsV RX8 148 RX8 yX8_adds wsX8_adds) := goodIn_app (goodIn_of _ (by decide +kernel)) ggX8_bather_X8_adds
theorem dX8_bather_0 : decode cX8_bather 0 = .ok (.iload_n 1, 1) := by decide +kernel
theorem dX8_bather_1 : decode cX8_bather 1 = .ok (.invokestatic 145, 3) := by decide +kernel
theorem dX8_bather_4 : decode cX8_bather 4 = .ok (.ifCond .eq 10, 3) := by decide +kernel
theorem dX8_bather_7 : decode cX8_bather 7 = .ok (.iload_n 2, 1) := by decide +kernel
theorem dX8_bather_8 : decode cX8_bather 8 = .ok (.invokestatic 85, 3) := by decide +kernel
theorem dX8_bather_11 : decode cX8_bather 11 = .ok (.ifCond .ne 9, 3) := by decide +kernel
theorem dX8_bather_14 : decode cX8_bather 14 = .ok (.aload_n 0, 1) := by decide +kernel
theorem dX8_bather_15 : decode cX8_bather 15 = .ok (.iconst 0, 1) := by decide +kernel
theorem dX8_bather_16 : decode cX8_bather 16 = .ok (.invokevirtual 93, 3) := by decide +kernel
theorem dX8_bather_19 : decode cX8_bather 19 = .ok (.ireturn, 1) := by decide +kernel
theorem dX8_bather_20 : decode cX8_bather 20 = .ok (.aload_n 0, 1) := by decide +kernel
theorem dX8_bather_21 : decode cX8_bather 21 = .ok (.getfield 9, 3) := by decide +kernel
theorem dX8_bather_24 : decode cX8_bather 24 = .ok (.iconst 1, 1) := by decide +kernel
theorem dX8_bather_25 : decode cX8_bather 25 = .ok (.iaload, 1) := by decide +kernel
theorem dX8_bather_26 : decode cX8_bather 26 = .ok (.bipush 8, 2) := by decide +kernel
theorem dX8_bather_28 : decode cX8_bather 28 = .ok (.if_icmp .ne 11, 3) := by decide +kernel
theorem dX8_bather_31 : decode cX8_bather 31 = .ok (.aload_n 0, 1) := by decide +kernel
theorem dX8_bather_32 : decode cX8_bather 32 = .ok (.iconst 1, 1) := by decide +kernel
theorem dX8_bather_33 : decode cX8_bather 33 = .ok (.invokevirtual 93, 3) := by decide +kernel
theorem dX8_bather_36 : decode cX8_bather 36 = .ok (.goto 9, 3) := by decide +kernel
theorem dX8_bather_39 : decode cX8_bather 39 = .ok (.aload_n 0, 1) := by decide +kernel
theorem dX8_bather_40 : decode cX8_bather 40 = .ok (.iload_n 1, 1) := by decide +kernel
theorem dX8_bather_41 : decode cX8_bather 41 = .ok (.iload_n 2, 1) := by decide +kernel
theorem dX8_bather_42 : decode cX8_bather 42 = .ok (.invokevirtual 148, 3) := by decide +kernel
theorem dX8_bather_45 : decode cX8_bather 45 = .ok (.ireturn, 1) := by decide +kernel
set_option maxRecDepth 20000 in
theorem ggX8_isCaught_X8_isIn : GoodIn wsX8_isCaught wsX8_isIn := goodIn_r _ [5, 6, 7, 8, 4, 9, 10, 30, 31, 32, 33, 34, 35, 36, 37, 38, 39, 40, 41, 42, 43, 44, 45, 46, 47, 48, 49] (by decide +kernel) (by decide +kernel)
set_option maxRecDepth 20000 in
theorem gX8_isCaught_X8_isIn : GoodIn wsX8_isCaught (wsV RX8 151 RX8 yX8_isIn wsX8_isIn) := goodIn_app (goodIn_of _ (by decide +kernel)) ggX8_isCaught_X8_isIn
set_option maxRecDepth 20000 in
theorem ggX8_isCaught_X8_its : GoodIn wsX8_isCaught wsX8_its := goodIn_r _ [9, 10, 30, 31, 32, 33, 34, 35, 36, 37, 38, 39, 40, 41, 42, 43, 44, 45, 46, 47, 48, 49] (by decide +kernel) (by decide +kernel)
set_option maxRecDepth 20000 in
theorem gX8_isCaught_X8_its : GoodIn wsX8_isCaught (wsV RX8 99 RX8 yX8_its wsX8_its) := goodIn_app (goodIn_of _ (by decide +kernel)) ggX8_isCaught_X8_its
set_option maxRecDepth 20000 in
theorem ggX8_isCaught_X8_isSeen : GoodIn wsX8_isCaught wsX8_isSeen := goodIn_r _ [14, 15, 16, 17, 4, 18, 10, 19, 20, 21, 22, 23, 24, 25, 26, 27, 28, 29, 30, 31, 32, 33, 34, 35, 36, 37, 38, 39, 40, 41, 42, 43, 44, 45, 46, 47, 48, 49] (by decide +kernel) (by decide +kernel)
set_option maxRecDepth 20000 in
theorem gX8_isCaught_X8_isSeen : GoodIn wsX8_isCaught (wsV RX8 126 RX8 yX8_isSeen wsX8_isSeen) := goodIn_app (goodIn_of _ (by decide +kernel)) ggX8_isCaught_X8_isSeen
theorem dX8_isCaught_0 : decode cX8_isCaught 0 = .ok (.aload_n 0, 1) := by decide +kernel
theorem dX8_isCaught_1 : decode cX8_isCaught 1 = .ok (.iload_n 1, 1) := by decide +kernel
theorem dX8_isCaught_2 : decode cX8_isCaught 2 = .ok (.invokevirtual 151, 3) := by decide +kernel
theorem dX8_isCaught_5 : decode cX8_isCaught 5 = .ok (.ifCond .eq 20, 3) := by decide +kernel
theorem dX8_isCaught_8 : decode cX8_isCaught 8 = .ok (.aload_n 0, 1) := by decide +kernel
theorem dX8_isCaught_9 : decode cX8_isCaught 9 = .ok (.aload_n 0, 1) := by decide +kernel
theorem dX8_isCaught_10 : decode cX8_isCaught 10 = .ok (.iload_n 1, 1) := by decide +kernel
theorem dX8_isCaught_11 : decode cX8_isCaught 11 = .ok (.iconst 1, 1) := by decide +kernel
theorem dX8_isCaught_12 : decode cX8_isCaught 12 = .ok (.invokevirtual 99, 3) := by decide +kernel
theorem dX8_isCaught_15 : decode cX8_isCaught 15 = .ok (.invokevirtual 126, 3) := by decide +kernel
theorem dX8_isCaught_18 : decode cX8_isCaught 18 = .ok (.ifCond .eq 7, 3) := by decide +kernel
theorem dX8_isCaught_21 : decode cX8_isCaught 21 = .ok (.iconst 1, 1) := by decide +kernel
theorem dX8_isCaught_22 : decode cX8_isCaught 22 = .ok (.goto 4, 3) := by decide +kernel
theorem dX8_isCaught_25 : decode cX8_isCaught 25 = .ok (.iconst 0, 1) := by decide +kernel
theorem dX8_isCaught_26 : decode cX8_isCaught 26 = .ok (.ireturn, 1) := by decide +kernel
set_option maxRecDepth 20000 in
theorem ggX8_of_X8_isBather : GoodIn wsX8_of wsX8_isBather := goodIn_r _ [6, 7, 8, 9, 5, 10, 79, 80, 81, 82, 83, 84, 85, 86, 87, 88, 89, 90, 91, 92, 93, 94, 95, 96, 97, 98] (by decide +kernel) (by decide +kernel)
set_option maxRecDepth 20000 in
theorem gX8_of_X8_isBather : GoodIn wsX8_of (wsV RX8 154 RX8 yX8_isBather wsX8_isBather) := goodIn_app (goodIn_of _ (by decide +kernel)) ggX8_of_X8_isBather
set_option maxRecDepth 20000 in
theorem ggX8_of_X8_in : GoodIn wsX8_of wsX8_in := goodIn_r _ [10] (by decide +kernel) (by decide +kernel)
set_option maxRecDepth 20000 in
theorem gX8_of_X8_in : GoodIn wsX8_of (va_wsS RX8 58 yX8_in wsX8_in) := goodIn_app (goodIn_of _ (by decide +kernel)) ggX8_of_X8_in
set_option maxRecDepth 20000 in
theorem ggX8_of_X8_finds : GoodIn wsX8_of wsX8_finds := goodIn_r _ [14, 15, 16, 79, 80, 81, 82, 83, 84, 85, 86, 87, 88, 89, 90, 91, 92, 93, 94, 95, 96, 97, 98] (by decide +kernel) (by decide +kernel)
set_option maxRecDepth 20000 in
theorem gX8_of_X8_finds : GoodIn wsX8_of (wsV RX8 93 RX8 yX8_finds wsX8_finds) := goodIn_app (goodIn_of _ (by decide +kernel)) ggX8_of_X8_finds
set_option maxRecDepth 20000 in
theorem ggX8_of_X8_its : GoodIn wsX8_of wsX8_its := goodIn_r _ [20, 7, 79, 80, 81, 82, 83, 84, 85, 86, 87, 88, 89, 90, 91, 92, 93, 94, 95, 96, 97, 98] (by decide +kernel) (by decide +kernel)
set_option maxRecDepth 20000 in
theorem gX8_of_X8_its : GoodIn wsX8_of (wsV RX8 99 RX8 yX8_its wsX8_its) := goodIn_app (goodIn_of _ (by decide +kernel)) ggX8_of_X8_its
set_option maxRecDepth 20000 in
theorem ggX8_of_X8_isCaught : GoodIn wsX8_of wsX8_isCaught := goodIn_r _ [24, 25, 26, 27, 5, 28, 17, 18, 19, 20, 7, 29, 30, 31, 32, 33, 34, 35, 36, 37, 38, 39, 40, 41, 42, 43, 44, 45, 46, 47, 79, 80, 81, 82, 83, 84, 85, 86, 87, 88, 89, 90, 91, 92, 93, 94, 95, 96, 97, 98] (by decide +kernel) (by decide +kernel)
set_option maxRecDepth 20000 in
theorem gX8_of_X8_isCaught : GoodIn wsX8_of (wsV RX8 157 RX8 yX8_isCaught wsX8_isCaught) := goodIn_app (goodIn_of _ (by decide +kernel)) ggX8_of_X8_isCaught
set_option maxRecDepth 20000 in
theorem ggX8_of_X8_isIn : GoodIn wsX8_of wsX8_isIn := goodIn_r _ [28, 17, 18, 19, 5, 20, 7, 79, 80, 81, 82, 83, 84, 85, 86, 87, 88, 89, 90, 91, 92, 93, 94, 95, 96, 97, 98] (by decide +kernel) (by decide +kernel)
set_option maxRecDepth 20000 in
theorem gX8_of_X8_isIn : GoodIn wsX8_of (wsV RX8 151 RX8 yX8_isIn wsX8_isIn) := goodIn_app (goodIn_of _ (by decide +kernel)) ggX8_of_X8_isIn
set_option maxRecDepth 20000 in
theorem ggX8_of_X8_stepOf : GoodIn wsX8_of wsX8_stepOf := goodIn_r _ [51, 17, 18, 19, 5, 20, 7, 52, 53, 54, 55, 56, 57, 58, 59, 60, 61, 62, 63, 8, 9, 10, 64, 65, 66, 29, 30, 31, 32, 33, 34, 35, 36, 37, 38, 39, 40, 41, 42, 43, 44, 45, 46, 47, 67, 68, 69, 70, 71, 72, 73, 74, 75, 76, 77, 78, 79, 80, 81, 82, 83, 84, 85, 86, 87, 88, 89, 90, 91, 92, 93, 94, 95, 96, 97, 98] (by decide +kernel) (by decide +kernel)
set_option maxRecDepth 20000 in
theorem gX8_of_X8_stepOf : GoodIn wsX8_of (wsV RX8 160 RX8 yX8_stepOf wsX8_stepOf) := goodIn_app (goodIn_of _ (by decide +kernel)) ggX8_of_X8_stepOf
theorem dX8_of_0 : decode cX8_of 0 = .ok (.aload_n 0, 1) := by decide +kernel
theorem dX8_of_1 : decode cX8_of 1 = .ok (.iload_n 1, 1) := by decide +kernel
theorem dX8_of_2 : decode cX8_of 2 = .ok (.invokevirtual 154, 3) := by decide +kernel
theorem dX8_of_5 : decode cX8_of 5 = .ok (.ifCond .eq 15, 3) := by decide +kernel
theorem dX8_of_8 : decode cX8_of 8 = .ok (.iload_n 2, 1) := by decide +kernel
theorem dX8_of_9 : decode cX8_of 9 = .ok (.i2l, 1) := by decide +kernel
theorem dX8_of_10 : decode cX8_of 10 = .ok (.lconst 0, 1) := by decide +kernel
theorem dX8_of_11 : decode cX8_of 11 = .ok (.ldc2_w 115, 3) := by decide +kernel
theorem dX8_of_14 : decode cX8_of 14 = .ok (.invokestatic 58, 3) := by decide +kernel
theorem dX8_of_17 : decode cX8_of 17 = .ok (.ifCond .ne 9, 3) := by decide +kernel
theorem dX8_of_20 : decode cX8_of 20 = .ok (.aload_n 0, 1) := by decide +kernel
theorem dX8_of_21 : decode cX8_of 21 = .ok (.iconst 0, 1) := by decide +kernel
theorem dX8_of_22 : decode cX8_of 22 = .ok (.invokevirtual 93, 3) := by decide +kernel
theorem dX8_of_25 : decode cX8_of 25 = .ok (.ireturn, 1) := by decide +kernel
theorem dX8_of_26 : decode cX8_of 26 = .ok (.iload_n 2, 1) := by decide +kernel
theorem dX8_of_27 : decode cX8_of 27 = .ok (.iconst 5, 1) := by decide +kernel
theorem dX8_of_28 : decode cX8_of 28 = .ok (.if_icmp .ge 10, 3) := by decide +kernel
theorem dX8_of_31 : decode cX8_of 31 = .ok (.aload_n 0, 1) := by decide +kernel
theorem dX8_of_32 : decode cX8_of 32 = .ok (.iload_n 1, 1) := by decide +kernel
theorem dX8_of_33 : decode cX8_of 33 = .ok (.iload_n 2, 1) := by decide +kernel
theorem dX8_of_34 : decode cX8_of 34 = .ok (.invokevirtual 99, 3) := by decide +kernel
theorem dX8_of_37 : decode cX8_of 37 = .ok (.ireturn, 1) := by decide +kernel
theorem dX8_of_38 : decode cX8_of 38 = .ok (.iload_n 2, 1) := by decide +kernel
theorem dX8_of_39 : decode cX8_of 39 = .ok (.bipush 6, 2) := by decide +kernel
theorem dX8_of_41 : decode cX8_of 41 = .ok (.if_icmp .ne 19, 3) := by decide +kernel
theorem dX8_of_44 : decode cX8_of 44 = .ok (.aload_n 0, 1) := by decide +kernel
theorem dX8_of_45 : decode cX8_of 45 = .ok (.iload_n 1, 1) := by decide +kernel
theorem dX8_of_46 : decode cX8_of 46 = .ok (.invokevirtual 157, 3) := by decide +kernel
theorem dX8_of_49 : decode cX8_of 49 = .ok (.ifCond .eq 7, 3) := by decide +kernel
theorem dX8_of_52 : decode cX8_of 52 = .ok (.iconst 1, 1) := by decide +kernel
theorem dX8_of_53 : decode cX8_of 53 = .ok (.goto 29, 3) := by decide +kernel
theorem dX8_of_56 : decode cX8_of 56 = .ok (.iconst 0, 1) := by decide +kernel
theorem dX8_of_57 : decode cX8_of 57 = .ok (.goto 25, 3) := by decide +kernel
theorem dX8_of_60 : decode cX8_of 60 = .ok (.aload_n 0, 1) := by decide +kernel
theorem dX8_of_61 : decode cX8_of 61 = .ok (.iload_n 1, 1) := by decide +kernel
theorem dX8_of_62 : decode cX8_of 62 = .ok (.invokevirtual 151, 3) := by decide +kernel
theorem dX8_of_65 : decode cX8_of 65 = .ok (.ifCond .eq 11, 3) := by decide +kernel
theorem dX8_of_68 : decode cX8_of 68 = .ok (.aload_n 0, 1) := by decide +kernel
theorem dX8_of_69 : decode cX8_of 69 = .ok (.iload_n 1, 1) := by decide +kernel
theorem dX8_of_70 : decode cX8_of 70 = .ok (.invokevirtual 160, 3) := by decide +kernel
theorem dX8_of_73 : decode cX8_of 73 = .ok (.goto 9, 3) := by decide +kernel
theorem dX8_of_76 : decode cX8_of 76 = .ok (.aload_n 0, 1) := by decide +kernel
theorem dX8_of_77 : decode cX8_of 77 = .ok (.iload_n 1, 1) := by decide +kernel
theorem dX8_of_78 : decode cX8_of 78 = .ok (.iconst 1, 1) := by decide +kernel
theorem dX8_of_79 : decode cX8_of 79 = .ok (.invokevirtual 99, 3) := by decide +kernel
theorem dX8_of_82 : decode cX8_of 82 = .ok (.ireturn, 1) := by decide +kernel
set_option maxRecDepth 20000 in
theorem ggX8_mayBe_X8_isKind : GoodIn wsX8_mayBe wsX8_isKind := goodIn_r _ [6, 7, 8, 9, 5, 10] (by decide +kernel) (by decide +kernel)
set_option maxRecDepth 20000 in
theorem gX8_mayBe_X8_isKind : GoodIn wsX8_mayBe (va_wsS RX8 145 yX8_isKind wsX8_isKind) := goodIn_app (goodIn_of _ (by decide +kernel)) ggX8_mayBe_X8_isKind
set_option maxRecDepth 20000 in
theorem ggX8_mayBe_X8_isCell : GoodIn wsX8_mayBe wsX8_isCell := goodIn_r _ [13, 14, 8, 9, 5, 10] (by decide +kernel) (by decide +kernel)
set_option maxRecDepth 20000 in
theorem gX8_mayBe_X8_isCell : GoodIn wsX8_mayBe (va_wsS RX8 85 yX8_isCell wsX8_isCell) := goodIn_app (goodIn_of _ (by decide +kernel)) ggX8_mayBe_X8_isCell
set_option maxRecDepth 20000 in
theorem ggX8_mayBe_X8_isSide : GoodIn wsX8_mayBe wsX8_isSide := goodIn_r _ [17, 8, 9, 5, 10] (by decide +kernel) (by decide +kernel)
set_option maxRecDepth 20000 in
theorem gX8_mayBe_X8_isSide : GoodIn wsX8_mayBe (va_wsS RX8 163 yX8_isSide wsX8_isSide) := goodIn_app (goodIn_of _ (by decide +kernel)) ggX8_mayBe_X8_isSide
set_option maxRecDepth 20000 in
theorem ggX8_mayBe_X8_in : GoodIn wsX8_mayBe wsX8_in := goodIn_r _ [10] (by decide +kernel) (by decide +kernel)
set_option maxRecDepth 20000 in
theorem gX8_mayBe_X8_in : GoodIn wsX8_mayBe (va_wsS RX8 58 yX8_in wsX8_in) := goodIn_app (goodIn_of _ (by decide +kernel)) ggX8_mayBe_X8_in
theorem dX8_mayBe_0 : decode cX8_mayBe 0 = .ok (.iload_n 0, 1) := by decide +kernel
theorem dX8_mayBe_1 : decode cX8_mayBe 1 = .ok (.tableswitch 56 0 3 #[31, 36, 41, 46], 31) := by decide +kernel
theorem dX8_mayBe_32 : decode cX8_mayBe 32 = .ok (.iload_n 1, 1) := by decide +kernel
theorem dX8_mayBe_33 : decode cX8_mayBe 33 = .ok (.invokestatic 145, 3) := by decide +kernel
theorem dX8_mayBe_36 : decode cX8_mayBe 36 = .ok (.ireturn, 1) := by decide +kernel
theorem dX8_mayBe_37 : decode cX8_mayBe 37 = .ok (.iload_n 1, 1) := by decide +kernel
theorem dX8_mayBe_38 : decode cX8_mayBe 38 = .ok (.invokestatic 85, 3) := by decide +kernel
theorem dX8_mayBe_41 : decode cX8_mayBe 41 = .ok (.ireturn, 1) := by decide +kernel
theorem dX8_mayBe_42 : decode cX8_mayBe 42 = .ok (.iload_n 1, 1) := by decide +kernel
theorem dX8_mayBe_43 : decode cX8_mayBe 43 = .ok (.invokestatic 163, 3) := by decide +kernel
theorem dX8_mayBe_46 : decode cX8_mayBe 46 = .ok (.ireturn, 1) := by decide +kernel
theorem dX8_mayBe_47 : decode cX8_mayBe 47 = .ok (.iload_n 1, 1) := by decide +kernel
theorem dX8_mayBe_48 : decode cX8_mayBe 48 = .ok (.i2l, 1) := by decide +kernel
theorem dX8_mayBe_49 : decode cX8_mayBe 49 = .ok (.lconst 0, 1) := by decide +kernel
theorem dX8_mayBe_50 : decode cX8_mayBe 50 = .ok (.ldc2_w 166, 3) := by decide +kernel
theorem dX8_mayBe_53 : decode cX8_mayBe 53 = .ok (.invokestatic 58, 3) := by decide +kernel
theorem dX8_mayBe_56 : decode cX8_mayBe 56 = .ok (.ireturn, 1) := by decide +kernel
theorem dX8_mayBe_57 : decode cX8_mayBe 57 = .ok (.iload_n 0, 1) := by decide +kernel
theorem dX8_mayBe_58 : decode cX8_mayBe 58 = .ok (.iconst 4, 1) := by decide +kernel
theorem dX8_mayBe_59 : decode cX8_mayBe 59 = .ok (.if_icmp .ne 19, 3) := by decide +kernel
theorem dX8_mayBe_62 : decode cX8_mayBe 62 = .ok (.iload_n 1, 1) := by decide +kernel
theorem dX8_mayBe_63 : decode cX8_mayBe 63 = .ok (.i2l, 1) := by decide +kernel
theorem dX8_mayBe_64 : decode cX8_mayBe 64 = .ok (.lconst 0, 1) := by decide +kernel
theorem dX8_mayBe_65 : decode cX8_mayBe 65 = .ok (.ldc2_w 83, 3) := by decide +kernel
theorem dX8_mayBe_68 : decode cX8_mayBe 68 = .ok (.invokestatic 58, 3) := by decide +kernel
theorem dX8_mayBe_71 : decode cX8_mayBe 71 = .ok (.ifCond .eq 7, 3) := by decide +kernel
theorem dX8_mayBe_74 : decode cX8_mayBe 74 = .ok (.iconst 1, 1) := by decide +kernel
theorem dX8_mayBe_75 : decode cX8_mayBe 75 = .ok (.goto 4, 3) := by decide +kernel
theorem dX8_mayBe_78 : decode cX8_mayBe 78 = .ok (.iconst 0, 1) := by decide +kernel
theorem dX8_mayBe_79 : decode cX8_mayBe 79 = .ok (.ireturn, 1) := by decide +kernel
set_option maxRecDepth 20000 in
theorem ggX8_change_X8_isBather : GoodIn wsX8_change wsX8_isBather := goodIn_r _ [5, 6, 7, 8, 4, 9, 36, 37, 38, 39, 40, 41, 42, 43, 44, 45, 46, 47, 48, 49, 50, 51, 52, 53, 54, 55] (by decide +kernel) (by decide +kernel)
set_option maxRecDepth 20000 in
theorem gX8_change_X8_isBather : GoodIn wsX8_change (wsV RX8 154 RX8 yX8_isBather wsX8_isBather) := goodIn_app (goodIn_of _ (by decide +kernel)) ggX8_change_X8_isBather
set_option maxRecDepth 20000 in
theorem ggX8_change_X8_mayBe : GoodIn wsX8_change wsX8_mayBe := goodIn_r _ [12, 13, 14, 15, 16, 4, 17, 18, 7, 8, 9, 19, 20, 21, 22, 23, 24, 25] (by decide +kernel) (by decide +kernel)
set_option maxRecDepth 20000 in
theorem gX8_change_X8_mayBe : GoodIn wsX8_change (va_wsS RX8 168 yX8_mayBe wsX8_mayBe) := goodIn_app (goodIn_of _ (by decide +kernel)) ggX8_change_X8_mayBe
set_option maxRecDepth 20000 in
theorem ggX8_change_X8_becomes : GoodIn wsX8_change wsX8_becomes := goodIn_r _ [29, 6, 36, 37, 38, 39, 40, 41, 42, 43, 44, 45, 46, 47, 48, 49, 50, 51, 52, 53, 54, 55] (by decide +kernel) (by decide +kernel)
set_option maxRecDepth 20000 in
theorem gX8_change_X8_becomes : GoodIn wsX8_change (wsV RX8 96 RX8 yX8_becomes wsX8_becomes) := goodIn_app (goodIn_of _ (by decide +kernel)) ggX8_change_X8_becomes
set_option maxRecDepth 20000 in
theorem ggX8_change_X8_finds : GoodIn wsX8_change wsX8_finds := goodIn_r _ [33, 34, 35, 36, 37, 38, 39, 40, 41, 42, 43, 44, 45, 46, 47, 48, 49, 50, 51, 52, 53, 54, 55] (by decide +kernel) (by decide +kernel)
set_option maxRecDepth 20000 in
theorem gX8_change_X8_finds : GoodIn wsX8_change (wsV RX8 93 RX8 yX8_finds wsX8_finds) := goodIn_app (goodIn_of _ (by decide +kernel)) ggX8_change_X8_finds
theorem dX8_change_0 : decode cX8_change 0 = .ok (.aload_n 0, 1) := by decide +kernel
theorem dX8_change_1 : decode cX8_change 1 = .ok (.iload_n 1, 1) := by decide +kernel
theorem dX8_change_2 : decode cX8_change 2 = .ok (.invokevirtual 154, 3) := by decide +kernel
theorem dX8_change_5 : decode cX8_change 5 = .ok (.ifCond .eq 27, 3) := by decide +kernel
theorem dX8_change_8 : decode cX8_change 8 = .ok (.iload_n 2, 1) := by decide +kernel
theorem dX8_change_9 : decode cX8_change 9 = .ok (.iload_n 3, 1) := by decide +kernel
theorem dX8_change_10 : decode cX8_change 10 = .ok (.invokestatic 168, 3) := by decide +kernel
theorem dX8_change_13 : decode cX8_change 13 = .ok (.ifCond .eq 19, 3) := by decide +kernel
theorem dX8_change_16 : decode cX8_change 16 = .ok (.aload_n 0, 1) := by decide +kernel
theorem dX8_change_17 : decode cX8_change 17 = .ok (.bipush 105, 2) := by decide +kernel
theorem dX8_change_19 : decode cX8_change 19 = .ok (.iconst 5, 1) := by decide +kernel
theorem dX8_change_20 : decode cX8_change 20 = .ok (.iload_n 1, 1) := by decide +kernel
theorem dX8_change_21 : decode cX8_change 21 = .ok (.imul, 1) := by decide +kernel
theorem dX8_change_22 : decode cX8_change 22 = .ok (.iadd, 1) := by decide +kernel
theorem dX8_change_23 : decode cX8_change 23 = .ok (.iload_n 2, 1) := by decide +kernel
theorem dX8_change_24 : decode cX8_change 24 = .ok (.iadd, 1) := by decide +kernel
theorem dX8_change_25 : decode cX8_change 25 = .ok (.iload_n 3, 1) := by decide +kernel
theorem dX8_change_26 : decode cX8_change 26 = .ok (.invokevirtual 96, 3) := by decide +kernel
theorem dX8_change_29 : decode cX8_change 29 = .ok (.goto 8, 3) := by decide +kernel
theorem dX8_change_32 : decode cX8_change 32 = .ok (.aload_n 0, 1) := by decide +kernel
theorem dX8_change_33 : decode cX8_change 33 = .ok (.iconst 0, 1) := by decide +kernel
theorem dX8_change_34 : decode cX8_change 34 = .ok (.invokevirtual 93, 3) := by decide +kernel
theorem dX8_change_37 : decode cX8_change 37 = .ok (.ireturn, 1) := by decide +kernel
set_option maxRecDepth 20000 in
theorem ggX8_bathes_X8_its : GoodIn wsX8_bathes wsX8_its := goodIn_r _ [11, 5, 68, 69, 70, 71, 72, 73, 74, 75, 76, 77, 78, 79, 80, 81, 82, 83, 84, 85, 86, 87] (by decide +kernel) (by decide +kernel)
set_option maxRecDepth 20000 in
theorem gX8_bathes_X8_its : GoodIn wsX8_bathes (wsV RX8 99 RX8 yX8_its wsX8_its) := goodIn_app (goodIn_of _ (by decide +kernel)) ggX8_bathes_X8_its
set_option maxRecDepth 20000 in
theorem ggX8_bathes_X8_sets : GoodIn wsX8_bathes wsX8_sets := goodIn_r _ [15, 5, 68, 69, 70, 71, 72, 73, 74, 75, 76, 77, 78, 79, 80, 81, 82, 83, 84, 85, 86, 87] (by decide +kernel) (by decide +kernel)
set_option maxRecDepth 20000 in
theorem gX8_bathes_X8_sets : GoodIn wsX8_bathes (wsV RX8 141 RX8 yX8_sets wsX8_sets) := goodIn_app (goodIn_of _ (by decide +kernel)) ggX8_bathes_X8_sets
set_option maxRecDepth 20000 in
theorem ggX8_bathes_X8_stepOf : GoodIn wsX8_bathes wsX8_stepOf := goodIn_r _ [19, 7, 8, 9, 10, 11, 5, 20, 21, 22, 23, 24, 25, 26, 27, 28, 29, 30, 31, 32, 33, 34, 35, 36, 37, 38, 39, 40, 41, 42, 43, 44, 45, 46, 47, 48, 49, 50, 51, 52, 53, 54, 3, 55, 56, 57, 58, 59, 60, 61, 62, 63, 64, 65, 66, 67, 68, 69, 70, 71, 72, 73, 74, 75, 76, 77, 78, 79, 80, 81, 82, 83, 84, 85, 86, 87] (by decide +kernel) (by decide +kernel)
set_option maxRecDepth 20000 in
theorem gX8_bathes_X8_stepOf : GoodIn wsX8_bathes (wsV RX8 160 RX8 yX8_stepOf wsX8_stepOf) := goodIn_app (goodIn_of _ (by decide +kernel)) ggX8_bathes_X8_stepOf
set_option maxRecDepth 20000 in
theorem ggX8_bathes_X8_isSeen : GoodIn wsX8_bathes wsX8_isSeen := goodIn_r _ [41, 42, 43, 44, 10, 45, 5, 46, 47, 48, 49, 50, 51, 52, 53, 54, 3, 55, 68, 69, 70, 71, 72, 73, 74, 75, 76, 77, 78, 79, 80, 81, 82, 83, 84, 85, 86, 87] (by decide +kernel) (by decide +kernel)
set_option maxRecDepth 20000 in
theorem gX8_bathes_X8_isSeen : GoodIn wsX8_bathes (wsV RX8 126 RX8 yX8_isSeen wsX8_isSeen) := goodIn_app (goodIn_of _ (by decide +kernel)) ggX8_bathes_X8_isSeen
theorem dX8_bathes_0 : decode cX8_bathes 0 = .ok (.aload_n 0, 1) := by decide +kernel
theorem dX8_bathes_1 : decode cX8_bathes 1 = .ok (.iload_n 1, 1) := by decide +kernel
theorem dX8_bathes_2 : decode cX8_bathes 2 = .ok (.iconst 2, 1) := by decide +kernel
theorem dX8_bathes_3 : decode cX8_bathes 3 = .ok (.invokevirtual 99, 3) := by decide +kernel
theorem dX8_bathes_6 : decode cX8_bathes 6 = .ok (.ifCond .ne 7, 3) := by decide +kernel
theorem dX8_bathes_9 : decode cX8_bathes 9 = .ok (.iconst 0, 1) := by decide +kernel
theorem dX8_bathes_10 : decode cX8_bathes 10 = .ok (.goto 5, 3) := by decide +kernel
theorem dX8_bathes_13 : decode cX8_bathes 13 = .ok (.bipush 7, 2) := by decide +kernel
theorem dX8_bathes_15 : decode cX8_bathes 15 = .ok (.istore_n 2, 1) := by decide +kernel
theorem dX8_bathes_16 : decode cX8_bathes 16 = .ok (.aload_n 0, 1) := by decide +kernel
theorem dX8_bathes_17 : decode cX8_bathes 17 = .ok (.iload_n 1, 1) := by decide +kernel
theorem dX8_bathes_18 : decode cX8_bathes 18 = .ok (.iconst 1, 1) := by decide +kernel
theorem dX8_bathes_19 : decode cX8_bathes 19 = .ok (.invokevirtual 99, 3) := by decide +kernel
theorem dX8_bathes_22 : decode cX8_bathes 22 = .ok (.bipush 8, 2) := by decide +kernel
theorem dX8_bathes_24 : decode cX8_bathes 24 = .ok (.irem, 1) := by decide +kernel
theorem dX8_bathes_25 : decode cX8_bathes 25 = .ok (.iload_n 2, 1) := by decide +kernel
theorem dX8_bathes_26 : decode cX8_bathes 26 = .ok (.if_icmp .ne 29, 3) := by decide +kernel
theorem dX8_bathes_29 : decode cX8_bathes 29 = .ok (.aload_n 0, 1) := by decide +kernel
theorem dX8_bathes_30 : decode cX8_bathes 30 = .ok (.iload_n 1, 1) := by decide +kernel
theorem dX8_bathes_31 : decode cX8_bathes 31 = .ok (.iconst 0, 1) := by decide +kernel
theorem dX8_bathes_32 : decode cX8_bathes 32 = .ok (.invokevirtual 99, 3) := by decide +kernel
theorem dX8_bathes_35 : decode cX8_bathes 35 = .ok (.iconst 4, 1) := by decide +kernel
theorem dX8_bathes_36 : decode cX8_bathes 36 = .ok (.if_icmp .eq 19, 3) := by decide +kernel
theorem dX8_bathes_39 : decode cX8_bathes 39 = .ok (.aload_n 0, 1) := by decide +kernel
theorem dX8_bathes_40 : decode cX8_bathes 40 = .ok (.iload_n 1, 1) := by decide +kernel
theorem dX8_bathes_41 : decode cX8_bathes 41 = .ok (.iconst 1, 1) := by decide +kernel
theorem dX8_bathes_42 : decode cX8_bathes 42 = .ok (.bipush 100, 2) := by decide +kernel
theorem dX8_bathes_44 : decode cX8_bathes 44 = .ok (.aload_n 0, 1) := by decide +kernel
theorem dX8_bathes_45 : decode cX8_bathes 45 = .ok (.iload_n 1, 1) := by decide +kernel
theorem dX8_bathes_46 : decode cX8_bathes 46 = .ok (.iconst 2, 1) := by decide +kernel
theorem dX8_bathes_47 : decode cX8_bathes 47 = .ok (.invokevirtual 99, 3) := by decide +kernel
theorem dX8_bathes_50 : decode cX8_bathes 50 = .ok (.iadd, 1) := by decide +kernel
theorem dX8_bathes_51 : decode cX8_bathes 51 = .ok (.invokevirtual 141, 3) := by decide +kernel
theorem dX8_bathes_54 : decode cX8_bathes 54 = .ok (.return_, 1) := by decide +kernel
theorem dX8_bathes_55 : decode cX8_bathes 55 = .ok (.aload_n 0, 1) := by decide +kernel
theorem dX8_bathes_56 : decode cX8_bathes 56 = .ok (.iload_n 1, 1) := by decide +kernel
theorem dX8_bathes_57 : decode cX8_bathes 57 = .ok (.iconst 1, 1) := by decide +kernel
theorem dX8_bathes_58 : decode cX8_bathes 58 = .ok (.aload_n 0, 1) := by decide +kernel
theorem dX8_bathes_59 : decode cX8_bathes 59 = .ok (.iload_n 1, 1) := by decide +kernel
theorem dX8_bathes_60 : decode cX8_bathes 60 = .ok (.invokevirtual 160, 3) := by decide +kernel
theorem dX8_bathes_63 : decode cX8_bathes 63 = .ok (.invokevirtual 141, 3) := by decide +kernel
theorem dX8_bathes_66 : decode cX8_bathes 66 = .ok (.aload_n 0, 1) := by decide +kernel
theorem dX8_bathes_67 : decode cX8_bathes 67 = .ok (.iload_n 1, 1) := by decide +kernel
theorem dX8_bathes_68 : decode cX8_bathes 68 = .ok (.iconst 3, 1) := by decide +kernel
theorem dX8_bathes_69 : decode cX8_bathes 69 = .ok (.bipush 99, 2) := by decide +kernel
theorem dX8_bathes_71 : decode cX8_bathes 71 = .ok (.aload_n 0, 1) := by decide +kernel
theorem dX8_bathes_72 : decode cX8_bathes 72 = .ok (.iload_n 1, 1) := by decide +kernel
theorem dX8_bathes_73 : decode cX8_bathes 73 = .ok (.iconst 3, 1) := by decide +kernel
theorem dX8_bathes_74 : decode cX8_bathes 74 = .ok (.invokevirtual 99, 3) := by decide +kernel
theorem dX8_bathes_77 : decode cX8_bathes 77 = .ok (.iconst 1, 1) := by decide +kernel
theorem dX8_bathes_78 : decode cX8_bathes 78 = .ok (.iadd, 1) := by decide +kernel
theorem dX8_bathes_79 : decode cX8_bathes 79 = .ok (.invokestatic 171, 3) := by decide +kernel
theorem dX8_bathes_82 : decode cX8_bathes 82 = .ok (.invokevirtual 141, 3) := by decide +kernel
theorem dX8_bathes_85 : decode cX8_bathes 85 = .ok (.aload_n 0, 1) := by decide +kernel
theorem dX8_bathes_86 : decode cX8_bathes 86 = .ok (.getfield 9, 3) := by decide +kernel
theorem dX8_bathes_89 : decode cX8_bathes 89 = .ok (.iconst 3, 1) := by decide +kernel
theorem dX8_bathes_90 : decode cX8_bathes 90 = .ok (.ldc 174, 2) := by decide +kernel
theorem dX8_bathes_92 : decode cX8_bathes 92 = .ok (.aload_n 0, 1) := by decide +kernel
theorem dX8_bathes_93 : decode cX8_bathes 93 = .ok (.getfield 9, 3) := by decide +kernel
theorem dX8_bathes_96 : decode cX8_bathes 96 = .ok (.iconst 3, 1) := by decide +kernel
theorem dX8_bathes_97 : decode cX8_bathes 97 = .ok (.iaload, 1) := by decide +kernel
theorem dX8_bathes_98 : decode cX8_bathes 98 = .ok (.aload_n 0, 1) := by decide +kernel
theorem dX8_bathes_99 : decode cX8_bathes 99 = .ok (.aload_n 0, 1) := by decide +kernel
theorem dX8_bathes_100 : decode cX8_bathes 100 = .ok (.iload_n 1, 1) := by decide +kernel
theorem dX8_bathes_101 : decode cX8_bathes 101 = .ok (.iconst 1, 1) := by decide +kernel
theorem dX8_bathes_102 : decode cX8_bathes 102 = .ok (.invokevirtual 99, 3) := by decide +kernel
theorem dX8_bathes_105 : decode cX8_bathes 105 = .ok (.invokevirtual 126, 3) := by decide +kernel
theorem dX8_bathes_108 : decode cX8_bathes 108 = .ok (.ifCond .eq 7, 3) := by decide +kernel
theorem dX8_bathes_111 : decode cX8_bathes 111 = .ok (.iconst 1, 1) := by decide +kernel
theorem dX8_bathes_112 : decode cX8_bathes 112 = .ok (.goto 4, 3) := by decide +kernel
theorem dX8_bathes_115 : decode cX8_bathes 115 = .ok (.iconst 0, 1) := by decide +kernel
theorem dX8_bathes_116 : decode cX8_bathes 116 = .ok (.iadd, 1) := by decide +kernel
theorem dX8_bathes_117 : decode cX8_bathes 117 = .ok (.invokestatic 171, 3) := by decide +kernel
theorem dX8_bathes_120 : decode cX8_bathes 120 = .ok (.iastore, 1) := by decide +kernel
theorem dX8_bathes_121 : decode cX8_bathes 121 = .ok (.return_, 1) := by decide +kernel
set_option maxRecDepth 20000 in
theorem ggX8_aMinute_X8_isIn : GoodIn wsX8_aMinute wsX8_isIn := goodIn_r _ [6, 7, 8, 9, 5, 10, 1, 76, 77, 78, 79, 80, 81, 82, 83, 84, 85, 86, 87, 88, 89, 90, 91, 92, 93, 94, 95] (by decide +kernel) (by decide +kernel)
set_option maxRecDepth 20000 in
theorem gX8_aMinute_X8_isIn : GoodIn wsX8_aMinute (wsV RX8 151 RX8 yX8_isIn wsX8_isIn) := goodIn_app (goodIn_of _ (by decide +kernel)) ggX8_aMinute_X8_isIn
set_option maxRecDepth 20000 in
theorem ggX8_aMinute_X8_bathes : GoodIn wsX8_aMinute wsX8_bathes := goodIn_r _ [14, 15, 16, 17, 18, 1, 19, 7, 8, 9, 5, 10, 20, 21, 22, 23, 24, 25, 26, 27, 28, 29, 30, 31, 32, 33, 34, 35, 36, 37, 38, 39, 40, 41, 42, 43, 44, 45, 46, 47, 48, 49, 50, 51, 52, 53, 54, 55, 56, 57, 58, 59, 60, 61, 62, 63, 64, 65, 66, 67, 68, 69, 70, 71, 72, 73, 74, 75, 76, 77, 78, 79, 80, 81, 82, 83, 84, 85, 86, 87, 88, 89, 90, 91, 92, 93, 94, 95] (by decide +kernel) (by decide +kernel)
set_option maxRecDepth 20000 in
theorem gX8_aMinute_X8_bathes : GoodIn wsX8_aMinute (wsV RX8 175 RX8 yX8_bathes wsX8_bathes) := goodIn_app (goodIn_of _ (by decide +kernel)) ggX8_aMinute_X8_bathes
theorem dX8_aMinute_0 : decode cX8_aMinute 0 = .ok (.iconst 0, 1) := by decide +kernel
theorem dX8_aMinute_1 : decode cX8_aMinute 1 = .ok (.istore_n 1, 1) := by decide +kernel
theorem dX8_aMinute_2 : decode cX8_aMinute 2 = .ok (.iload_n 1, 1) := by decide +kernel
theorem dX8_aMinute_3 : decode cX8_aMinute 3 = .ok (.aload_n 0, 1) := by decide +kernel
theorem dX8_aMinute_4 : decode cX8_aMinute 4 = .ok (.getfield 9, 3) := by decide +kernel
theorem dX8_aMinute_7 : decode cX8_aMinute 7 = .ok (.iconst 1, 1) := by decide +kernel
theorem dX8_aMinute_8 : decode cX8_aMinute 8 = .ok (.iaload, 1) := by decide +kernel
theorem dX8_aMinute_9 : decode cX8_aMinute 9 = .ok (.if_icmp .ge 22, 3) := by decide +kernel
theorem dX8_aMinute_12 : decode cX8_aMinute 12 = .ok (.aload_n 0, 1) := by decide +kernel
theorem dX8_aMinute_13 : decode cX8_aMinute 13 = .ok (.iload_n 1, 1) := by decide +kernel
theorem dX8_aMinute_14 : decode cX8_aMinute 14 = .ok (.invokevirtual 151, 3) := by decide +kernel
theorem dX8_aMinute_17 : decode cX8_aMinute 17 = .ok (.ifCond .eq 8, 3) := by decide +kernel
theorem dX8_aMinute_20 : decode cX8_aMinute 20 = .ok (.aload_n 0, 1) := by decide +kernel
theorem dX8_aMinute_21 : decode cX8_aMinute 21 = .ok (.iload_n 1, 1) := by decide +kernel
theorem dX8_aMinute_22 : decode cX8_aMinute 22 = .ok (.invokevirtual 175, 3) := by decide +kernel
theorem dX8_aMinute_25 : decode cX8_aMinute 25 = .ok (.iinc 1 1, 3) := by decide +kernel
theorem dX8_aMinute_28 : decode cX8_aMinute 28 = .ok (.goto (-26), 3) := by decide +kernel
theorem dX8_aMinute_31 : decode cX8_aMinute 31 = .ok (.aload_n 0, 1) := by decide +kernel
theorem dX8_aMinute_32 : decode cX8_aMinute 32 = .ok (.getfield 9, 3) := by decide +kernel
theorem dX8_aMinute_35 : decode cX8_aMinute 35 = .ok (.iconst 0, 1) := by decide +kernel
theorem dX8_aMinute_36 : decode cX8_aMinute 36 = .ok (.dup2, 1) := by decide +kernel
theorem dX8_aMinute_37 : decode cX8_aMinute 37 = .ok (.iaload, 1) := by decide +kernel
theorem dX8_aMinute_38 : decode cX8_aMinute 38 = .ok (.iconst 1, 1) := by decide +kernel
theorem dX8_aMinute_39 : decode cX8_aMinute 39 = .ok (.iadd, 1) := by decide +kernel
theorem dX8_aMinute_40 : decode cX8_aMinute 40 = .ok (.iastore, 1) := by decide +kernel
theorem dX8_aMinute_41 : decode cX8_aMinute 41 = .ok (.return_, 1) := by decide +kernel
set_option maxRecDepth 20000 in
theorem ggX8_outSet_X8_its : GoodIn wsX8_outSet wsX8_its := goodIn_r _ [6, 1, 7, 8, 9, 10, 11, 12, 13, 14, 15, 16, 17, 18, 19, 20, 21, 22, 23, 24, 25, 26] (by decide +kernel) (by decide +kernel)
set_option maxRecDepth 20000 in
theorem gX8_outSet_X8_its : GoodIn wsX8_outSet (wsV RX8 99 RX8 yX8_its wsX8_its) := goodIn_app (goodIn_of _ (by decide +kernel)) ggX8_outSet_X8_its
theorem dX8_outSet_0 : decode cX8_outSet 0 = .ok (.iconst 0, 1) := by decide +kernel
theorem dX8_outSet_1 : decode cX8_outSet 1 = .ok (.istore_n 2, 1) := by decide +kernel
theorem dX8_outSet_2 : decode cX8_outSet 2 = .ok (.iconst 0, 1) := by decide +kernel
theorem dX8_outSet_3 : decode cX8_outSet 3 = .ok (.istore_n 3, 1) := by decide +kernel
theorem dX8_outSet_4 : decode cX8_outSet 4 = .ok (.iload_n 3, 1) := by decide +kernel
theorem dX8_outSet_5 : decode cX8_outSet 5 = .ok (.aload_n 0, 1) := by decide +kernel
theorem dX8_outSet_6 : decode cX8_outSet 6 = .ok (.getfield 9, 3) := by decide +kernel
theorem dX8_outSet_9 : decode cX8_outSet 9 = .ok (.iconst 1, 1) := by decide +kernel
theorem dX8_outSet_10 : decode cX8_outSet 10 = .ok (.iaload, 1) := by decide +kernel
theorem dX8_outSet_11 : decode cX8_outSet 11 = .ok (.if_icmp .ge 32, 3) := by decide +kernel
theorem dX8_outSet_14 : decode cX8_outSet 14 = .ok (.iload_n 2, 1) := by decide +kernel
theorem dX8_outSet_15 : decode cX8_outSet 15 = .ok (.aload_n 0, 1) := by decide +kernel
theorem dX8_outSet_16 : decode cX8_outSet 16 = .ok (.iload_n 3, 1) := by decide +kernel
theorem dX8_outSet_17 : decode cX8_outSet 17 = .ok (.iconst 1, 1) := by decide +kernel
theorem dX8_outSet_18 : decode cX8_outSet 18 = .ok (.invokevirtual 99, 3) := by decide +kernel
theorem dX8_outSet_21 : decode cX8_outSet 21 = .ok (.bipush 100, 2) := by decide +kernel
theorem dX8_outSet_23 : decode cX8_outSet 23 = .ok (.iload_n 1, 1) := by decide +kernel
theorem dX8_outSet_24 : decode cX8_outSet 24 = .ok (.iadd, 1) := by decide +kernel
theorem dX8_outSet_25 : decode cX8_outSet 25 = .ok (.if_icmp .ne 9, 3) := by decide +kernel
theorem dX8_outSet_28 : decode cX8_outSet 28 = .ok (.iconst 1, 1) := by decide +kernel
theorem dX8_outSet_29 : decode cX8_outSet 29 = .ok (.iload_n 3, 1) := by decide +kernel
theorem dX8_outSet_30 : decode cX8_outSet 30 = .ok (.ishl, 1) := by decide +kernel
theorem dX8_outSet_31 : decode cX8_outSet 31 = .ok (.goto 4, 3) := by decide +kernel
theorem dX8_outSet_34 : decode cX8_outSet 34 = .ok (.iconst 0, 1) := by decide +kernel
theorem dX8_outSet_35 : decode cX8_outSet 35 = .ok (.ior, 1) := by decide +kernel
theorem dX8_outSet_36 : decode cX8_outSet 36 = .ok (.istore_n 2, 1) := by decide +kernel
theorem dX8_outSet_37 : decode cX8_outSet 37 = .ok (.iinc 3 1, 3) := by decide +kernel
theorem dX8_outSet_40 : decode cX8_outSet 40 = .ok (.goto (-36), 3) := by decide +kernel
theorem dX8_outSet_43 : decode cX8_outSet 43 = .ok (.iload_n 2, 1) := by decide +kernel
theorem dX8_outSet_44 : decode cX8_outSet 44 = .ok (.ireturn, 1) := by decide +kernel
set_option maxRecDepth 20000 in
theorem ggX8_outMany_X8_isIn : GoodIn wsX8_outMany wsX8_isIn := goodIn_r _ [6, 7, 8, 9, 5, 10, 1, 11, 12, 13, 14, 15, 16, 17, 18, 19, 20, 21, 22, 23, 24, 25, 26, 27, 28, 29, 30] (by decide +kernel) (by decide +kernel)
set_option maxRecDepth 20000 in
theorem gX8_outMany_X8_isIn : GoodIn wsX8_outMany (wsV RX8 151 RX8 yX8_isIn wsX8_isIn) := goodIn_app (goodIn_of _ (by decide +kernel)) ggX8_outMany_X8_isIn
theorem dX8_outMany_0 : decode cX8_outMany 0 = .ok (.iconst 0, 1) := by decide +kernel
theorem dX8_outMany_1 : decode cX8_outMany 1 = .ok (.istore_n 1, 1) := by decide +kernel
theorem dX8_outMany_2 : decode cX8_outMany 2 = .ok (.iconst 0, 1) := by decide +kernel
theorem dX8_outMany_3 : decode cX8_outMany 3 = .ok (.istore_n 2, 1) := by decide +kernel
theorem dX8_outMany_4 : decode cX8_outMany 4 = .ok (.iload_n 2, 1) := by decide +kernel
theorem dX8_outMany_5 : decode cX8_outMany 5 = .ok (.aload_n 0, 1) := by decide +kernel
theorem dX8_outMany_6 : decode cX8_outMany 6 = .ok (.getfield 9, 3) := by decide +kernel
theorem dX8_outMany_9 : decode cX8_outMany 9 = .ok (.iconst 1, 1) := by decide +kernel
theorem dX8_outMany_10 : decode cX8_outMany 10 = .ok (.iaload, 1) := by decide +kernel
theorem dX8_outMany_11 : decode cX8_outMany 11 = .ok (.if_icmp .ge 25, 3) := by decide +kernel
theorem dX8_outMany_14 : decode cX8_outMany 14 = .ok (.iload_n 1, 1) := by decide +kernel
theorem dX8_outMany_15 : decode cX8_outMany 15 = .ok (.aload_n 0, 1) := by decide +kernel
theorem dX8_outMany_16 : decode cX8_outMany 16 = .ok (.iload_n 2, 1) := by decide +kernel
theorem dX8_outMany_17 : decode cX8_outMany 17 = .ok (.invokevirtual 151, 3) := by decide +kernel
theorem dX8_outMany_20 : decode cX8_outMany 20 = .ok (.ifCond .eq 7, 3) := by decide +kernel
theorem dX8_outMany_23 : decode cX8_outMany 23 = .ok (.iconst 0, 1) := by decide +kernel
theorem dX8_outMany_24 : decode cX8_outMany 24 = .ok (.goto 4, 3) := by decide +kernel
theorem dX8_outMany_27 : decode cX8_outMany 27 = .ok (.iconst 1, 1) := by decide +kernel
theorem dX8_outMany_28 : decode cX8_outMany 28 = .ok (.iadd, 1) := by decide +kernel
theorem dX8_outMany_29 : decode cX8_outMany 29 = .ok (.istore_n 1, 1) := by decide +kernel
theorem dX8_outMany_30 : decode cX8_outMany 30 = .ok (.iinc 2 1, 3) := by decide +kernel
theorem dX8_outMany_33 : decode cX8_outMany 33 = .ok (.goto (-29), 3) := by decide +kernel
theorem dX8_outMany_36 : decode cX8_outMany 36 = .ok (.iload_n 1, 1) := by decide +kernel
theorem dX8_outMany_37 : decode cX8_outMany 37 = .ok (.ireturn, 1) := by decide +kernel
set_option maxRecDepth 20000 in
theorem ggX8_go_X8_in : GoodIn wsX8_go wsX8_in := goodIn_r _ [7] (by decide +kernel) (by decide +kernel)
set_option maxRecDepth 20000 in
theorem gX8_go_X8_in : GoodIn wsX8_go (va_wsS RX8 58 yX8_in wsX8_in) := goodIn_app (goodIn_of _ (by decide +kernel)) ggX8_go_X8_in
set_option maxRecDepth 20000 in
theorem ggX8_go_X8_finds : GoodIn wsX8_go wsX8_finds := goodIn_r _ [11, 12, 13, 91, 92, 93, 94, 95, 96, 97, 98, 99, 100, 101, 102, 103, 104, 105, 106, 107, 108, 109, 110] (by decide +kernel) (by decide +kernel)
set_option maxRecDepth 20000 in
theorem gX8_go_X8_finds : GoodIn wsX8_go (wsV RX8 93 RX8 yX8_finds wsX8_finds) := goodIn_app (goodIn_of _ (by decide +kernel)) ggX8_go_X8_finds
set_option maxRecDepth 20000 in
theorem ggX8_go_X8_aMinute : GoodIn wsX8_go wsX8_aMinute := goodIn_r _ [17, 2, 18, 19, 20, 6, 21, 22, 23, 24, 25, 26, 27, 28, 29, 30, 31, 32, 33, 3, 34, 35, 36, 37, 38, 39, 40, 41, 42, 43, 44, 45, 46, 47, 48, 49, 50, 51, 52, 53, 4, 5, 7, 54, 55, 56, 57, 58, 59, 60, 61, 62, 63, 64, 65, 66, 67, 68, 69, 70, 71, 72, 73, 74, 75, 76, 77, 78, 79, 80, 81, 82, 83, 84, 85, 86, 91, 92, 93, 94, 95, 96, 97, 98, 99, 100, 101, 102, 103, 104, 105, 106, 107, 108, 109, 110] (by decide +kernel) (by decide +kernel)
set_option maxRecDepth 20000 in
theorem gX8_go_X8_aMinute : GoodIn wsX8_go (wsV RX8 181 RX8 yX8_aMinute wsX8_aMinute) := goodIn_app (goodIn_of _ (by decide +kernel)) ggX8_go_X8_aMinute
set_option maxRecDepth 20000 in
theorem ggX8_go_X8_outMany : GoodIn wsX8_go wsX8_outMany := goodIn_r _ [90, 2, 18, 19, 20, 6, 21, 22, 23, 24, 25, 91, 92, 93, 94, 95, 96, 97, 98, 99, 100, 101, 102, 103, 104, 105, 106, 107, 108, 109, 110] (by decide +kernel) (by decide +kernel)
set_option maxRecDepth 20000 in
theorem gX8_go_X8_outMany : GoodIn wsX8_go (wsV RX8 184 RX8 yX8_outMany wsX8_outMany) := goodIn_app (goodIn_of _ (by decide +kernel)) ggX8_go_X8_outMany
theorem dX8_go_0 : decode cX8_go 0 = .ok (.iload_n 1, 1) := by decide +kernel
theorem dX8_go_1 : decode cX8_go 1 = .ok (.i2l, 1) := by decide +kernel
theorem dX8_go_2 : decode cX8_go 2 = .ok (.lconst 1, 1) := by decide +kernel
theorem dX8_go_3 : decode cX8_go 3 = .ok (.ldc2_w 179, 3) := by decide +kernel
theorem dX8_go_6 : decode cX8_go 6 = .ok (.invokestatic 58, 3) := by decide +kernel
theorem dX8_go_9 : decode cX8_go 9 = .ok (.ifCond .ne 9, 3) := by decide +kernel
theorem dX8_go_12 : decode cX8_go 12 = .ok (.aload_n 0, 1) := by decide +kernel
theorem dX8_go_13 : decode cX8_go 13 = .ok (.iconst 0, 1) := by decide +kernel
theorem dX8_go_14 : decode cX8_go 14 = .ok (.invokevirtual 93, 3) := by decide +kernel
theorem dX8_go_17 : decode cX8_go 17 = .ok (.ireturn, 1) := by decide +kernel
theorem dX8_go_18 : decode cX8_go 18 = .ok (.aload_n 0, 1) := by decide +kernel
theorem dX8_go_19 : decode cX8_go 19 = .ok (.getfield 9, 3) := by decide +kernel
theorem dX8_go_22 : decode cX8_go 22 = .ok (.iconst 0, 1) := by decide +kernel
theorem dX8_go_23 : decode cX8_go 23 = .ok (.iaload, 1) := by decide +kernel
theorem dX8_go_24 : decode cX8_go 24 = .ok (.iload_n 1, 1) := by decide +kernel
theorem dX8_go_25 : decode cX8_go 25 = .ok (.iadd, 1) := by decide +kernel
theorem dX8_go_26 : decode cX8_go 26 = .ok (.ldc 174, 2) := by decide +kernel
theorem dX8_go_28 : decode cX8_go 28 = .ok (.if_icmp .le 9, 3) := by decide +kernel
theorem dX8_go_31 : decode cX8_go 31 = .ok (.aload_n 0, 1) := by decide +kernel
theorem dX8_go_32 : decode cX8_go 32 = .ok (.iconst 4, 1) := by decide +kernel
theorem dX8_go_33 : decode cX8_go 33 = .ok (.invokevirtual 93, 3) := by decide +kernel
theorem dX8_go_36 : decode cX8_go 36 = .ok (.ireturn, 1) := by decide +kernel
theorem dX8_go_37 : decode cX8_go 37 = .ok (.iconst 0, 1) := by decide +kernel
theorem dX8_go_38 : decode cX8_go 38 = .ok (.istore_n 2, 1) := by decide +kernel
theorem dX8_go_39 : decode cX8_go 39 = .ok (.iload_n 2, 1) := by decide +kernel
theorem dX8_go_40 : decode cX8_go 40 = .ok (.iload_n 1, 1) := by decide +kernel
theorem dX8_go_41 : decode cX8_go 41 = .ok (.if_icmp .ge 13, 3) := by decide +kernel
theorem dX8_go_44 : decode cX8_go 44 = .ok (.aload_n 0, 1) := by decide +kernel
theorem dX8_go_45 : decode cX8_go 45 = .ok (.invokevirtual 181, 3) := by decide +kernel
theorem dX8_go_48 : decode cX8_go 48 = .ok (.iinc 2 1, 3) := by decide +kernel
theorem dX8_go_51 : decode cX8_go 51 = .ok (.goto (-12), 3) := by decide +kernel
theorem dX8_go_54 : decode cX8_go 54 = .ok (.aload_n 0, 1) := by decide +kernel
theorem dX8_go_55 : decode cX8_go 55 = .ok (.invokevirtual 184, 3) := by decide +kernel
theorem dX8_go_58 : decode cX8_go 58 = .ok (.ireturn, 1) := by decide +kernel
set_option maxRecDepth 20000 in
theorem ggX8_seenMany_X8_isSeen : GoodIn wsX8_seenMany wsX8_isSeen := goodIn_r _ [5, 6, 7, 8, 4, 9, 10, 11, 12, 13, 14, 15, 16, 17, 18, 19, 20, 21, 22, 23, 24, 25, 26, 27, 28, 29, 30, 31, 32, 33, 34, 35, 36, 37, 38, 39, 40, 41] (by decide +kernel) (by decide +kernel)
set_option maxRecDepth 20000 in
theorem gX8_seenMany_X8_isSeen : GoodIn wsX8_seenMany (wsV RX8 126 RX8 yX8_isSeen wsX8_isSeen) := goodIn_app (goodIn_of _ (by decide +kernel)) ggX8_seenMany_X8_isSeen
theorem dX8_seenMany_0 : decode cX8_seenMany 0 = .ok (.iconst 0, 1) := by decide +kernel
theorem dX8_seenMany_1 : decode cX8_seenMany 1 = .ok (.istore_n 1, 1) := by decide +kernel
theorem dX8_seenMany_2 : decode cX8_seenMany 2 = .ok (.iconst 0, 1) := by decide +kernel
theorem dX8_seenMany_3 : decode cX8_seenMany 3 = .ok (.istore_n 2, 1) := by decide +kernel
theorem dX8_seenMany_4 : decode cX8_seenMany 4 = .ok (.iload_n 2, 1) := by decide +kernel
theorem dX8_seenMany_5 : decode cX8_seenMany 5 = .ok (.bipush 48, 2) := by decide +kernel
theorem dX8_seenMany_7 : decode cX8_seenMany 7 = .ok (.if_icmp .ge 25, 3) := by decide +kernel
theorem dX8_seenMany_10 : decode cX8_seenMany 10 = .ok (.iload_n 1, 1) := by decide +kernel
theorem dX8_seenMany_11 : decode cX8_seenMany 11 = .ok (.aload_n 0, 1) := by decide +kernel
theorem dX8_seenMany_12 : decode cX8_seenMany 12 = .ok (.iload_n 2, 1) := by decide +kernel
theorem dX8_seenMany_13 : decode cX8_seenMany 13 = .ok (.invokevirtual 126, 3) := by decide +kernel
theorem dX8_seenMany_16 : decode cX8_seenMany 16 = .ok (.ifCond .eq 7, 3) := by decide +kernel
theorem dX8_seenMany_19 : decode cX8_seenMany 19 = .ok (.iconst 1, 1) := by decide +kernel
theorem dX8_seenMany_20 : decode cX8_seenMany 20 = .ok (.goto 4, 3) := by decide +kernel
theorem dX8_seenMany_23 : decode cX8_seenMany 23 = .ok (.iconst 0, 1) := by decide +kernel
theorem dX8_seenMany_24 : decode cX8_seenMany 24 = .ok (.iadd, 1) := by decide +kernel
theorem dX8_seenMany_25 : decode cX8_seenMany 25 = .ok (.istore_n 1, 1) := by decide +kernel
theorem dX8_seenMany_26 : decode cX8_seenMany 26 = .ok (.iinc 2 1, 3) := by decide +kernel
theorem dX8_seenMany_29 : decode cX8_seenMany 29 = .ok (.goto (-25), 3) := by decide +kernel
theorem dX8_seenMany_32 : decode cX8_seenMany 32 = .ok (.iload_n 1, 1) := by decide +kernel
theorem dX8_seenMany_33 : decode cX8_seenMany 33 = .ok (.ireturn, 1) := by decide +kernel
set_option maxRecDepth 20000 in
theorem ggX8_now_X8_outSet : GoodIn wsX8_now wsX8_outSet := goodIn_r _ [6, 1, 7, 8, 9, 5, 10, 40, 41, 42, 43, 44, 45, 46, 47, 48, 49, 50, 51, 52, 53, 54, 55, 56, 57, 58, 59] (by decide +kernel) (by decide +kernel)
set_option maxRecDepth 20000 in
theorem gX8_now_X8_outSet : GoodIn wsX8_now (wsV RX8 188 RX8 yX8_outSet wsX8_outSet) := goodIn_app (goodIn_of _ (by decide +kernel)) ggX8_now_X8_outSet
set_option maxRecDepth 20000 in
theorem ggX8_now_X8_seenMany : GoodIn wsX8_now wsX8_seenMany := goodIn_r _ [14, 15, 16, 17, 5, 18, 19, 20, 21, 22, 1, 23, 24, 25, 26, 27, 28, 29, 30, 31, 32, 33, 40, 41, 42, 43, 44, 45, 46, 47, 48, 49, 50, 51, 52, 53, 54, 55, 56, 57, 58, 59] (by decide +kernel) (by decide +kernel)
set_option maxRecDepth 20000 in
theorem gX8_now_X8_seenMany : GoodIn wsX8_now (wsV RX8 191 RX8 yX8_seenMany wsX8_seenMany) := goodIn_app (goodIn_of _ (by decide +kernel)) ggX8_now_X8_seenMany
set_option maxRecDepth 20000 in
theorem ggX8_now_X8_finds : GoodIn wsX8_now wsX8_finds := goodIn_r _ [37, 38, 39, 40, 41, 42, 43, 44, 45, 46, 47, 48, 49, 50, 51, 52, 53, 54, 55, 56, 57, 58, 59] (by decide +kernel) (by decide +kernel)
set_option maxRecDepth 20000 in
theorem gX8_now_X8_finds : GoodIn wsX8_now (wsV RX8 93 RX8 yX8_finds wsX8_finds) := goodIn_app (goodIn_of _ (by decide +kernel)) ggX8_now_X8_finds
theorem dX8_now_0 : decode cX8_now 0 = .ok (.iload_n 1, 1) := by decide +kernel
theorem dX8_now_1 : decode cX8_now 1 = .ok (.tableswitch 73 0 5 #[39, 46, 46, 54, 61, 68], 39) := by decide +kernel
theorem dX8_now_40 : decode cX8_now 40 = .ok (.aload_n 0, 1) := by decide +kernel
theorem dX8_now_41 : decode cX8_now 41 = .ok (.getfield 9, 3) := by decide +kernel
theorem dX8_now_44 : decode cX8_now 44 = .ok (.iconst 0, 1) := by decide +kernel
theorem dX8_now_45 : decode cX8_now 45 = .ok (.iaload, 1) := by decide +kernel
theorem dX8_now_46 : decode cX8_now 46 = .ok (.ireturn, 1) := by decide +kernel
theorem dX8_now_47 : decode cX8_now 47 = .ok (.aload_n 0, 1) := by decide +kernel
theorem dX8_now_48 : decode cX8_now 48 = .ok (.iload_n 1, 1) := by decide +kernel
theorem dX8_now_49 : decode cX8_now 49 = .ok (.iconst 1, 1) := by decide +kernel
theorem dX8_now_50 : decode cX8_now 50 = .ok (.isub, 1) := by decide +kernel
theorem dX8_now_51 : decode cX8_now 51 = .ok (.invokevirtual 188, 3) := by decide +kernel
theorem dX8_now_54 : decode cX8_now 54 = .ok (.ireturn, 1) := by decide +kernel
theorem dX8_now_55 : decode cX8_now 55 = .ok (.aload_n 0, 1) := by decide +kernel
theorem dX8_now_56 : decode cX8_now 56 = .ok (.getfield 9, 3) := by decide +kernel
theorem dX8_now_59 : decode cX8_now 59 = .ok (.iconst 3, 1) := by decide +kernel
theorem dX8_now_60 : decode cX8_now 60 = .ok (.iaload, 1) := by decide +kernel
theorem dX8_now_61 : decode cX8_now 61 = .ok (.ireturn, 1) := by decide +kernel
theorem dX8_now_62 : decode cX8_now 62 = .ok (.aload_n 0, 1) := by decide +kernel
theorem dX8_now_63 : decode cX8_now 63 = .ok (.getfield 9, 3) := by decide +kernel
theorem dX8_now_66 : decode cX8_now 66 = .ok (.iconst 2, 1) := by decide +kernel
theorem dX8_now_67 : decode cX8_now 67 = .ok (.iaload, 1) := by decide +kernel
theorem dX8_now_68 : decode cX8_now 68 = .ok (.ireturn, 1) := by decide +kernel
theorem dX8_now_69 : decode cX8_now 69 = .ok (.aload_n 0, 1) := by decide +kernel
theorem dX8_now_70 : decode cX8_now 70 = .ok (.invokevirtual 191, 3) := by decide +kernel
theorem dX8_now_73 : decode cX8_now 73 = .ok (.ireturn, 1) := by decide +kernel
theorem dX8_now_74 : decode cX8_now 74 = .ok (.aload_n 0, 1) := by decide +kernel
theorem dX8_now_75 : decode cX8_now 75 = .ok (.iconst 0, 1) := by decide +kernel
theorem dX8_now_76 : decode cX8_now 76 = .ok (.invokevirtual 93, 3) := by decide +kernel
theorem dX8_now_79 : decode cX8_now 79 = .ok (.ireturn, 1) := by decide +kernel
set_option maxRecDepth 20000 in
theorem ggX8_seen_X8_isSeen : GoodIn wsX8_seen wsX8_isSeen := goodIn_r _ [5, 6, 7, 8, 4, 9, 10, 11, 12, 13, 14, 15, 16, 17, 18, 19, 20, 21, 22, 23, 24, 25, 26, 27, 28, 29, 30, 31, 32, 33, 34, 35, 36, 37, 38, 39, 40, 41] (by decide +kernel) (by decide +kernel)
set_option maxRecDepth 20000 in
theorem gX8_seen_X8_isSeen : GoodIn wsX8_seen (wsV RX8 126 RX8 yX8_isSeen wsX8_isSeen) := goodIn_app (goodIn_of _ (by decide +kernel)) ggX8_seen_X8_isSeen
theorem dX8_seen_0 : decode cX8_seen 0 = .ok (.lconst 0, 1) := by decide +kernel
theorem dX8_seen_1 : decode cX8_seen 1 = .ok (.lstore_n 1, 1) := by decide +kernel
theorem dX8_seen_2 : decode cX8_seen 2 = .ok (.iconst 0, 1) := by decide +kernel
theorem dX8_seen_3 : decode cX8_seen 3 = .ok (.istore_n 3, 1) := by decide +kernel
theorem dX8_seen_4 : decode cX8_seen 4 = .ok (.iload_n 3, 1) := by decide +kernel
theorem dX8_seen_5 : decode cX8_seen 5 = .ok (.bipush 48, 2) := by decide +kernel
theorem dX8_seen_7 : decode cX8_seen 7 = .ok (.if_icmp .ge 27, 3) := by decide +kernel
theorem dX8_seen_10 : decode cX8_seen 10 = .ok (.lload_n 1, 1) := by decide +kernel
theorem dX8_seen_11 : decode cX8_seen 11 = .ok (.aload_n 0, 1) := by decide +kernel
theorem dX8_seen_12 : decode cX8_seen 12 = .ok (.iload_n 3, 1) := by decide +kernel
theorem dX8_seen_13 : decode cX8_seen 13 = .ok (.invokevirtual 126, 3) := by decide +kernel
theorem dX8_seen_16 : decode cX8_seen 16 = .ok (.ifCond .eq 9, 3) := by decide +kernel
theorem dX8_seen_19 : decode cX8_seen 19 = .ok (.lconst 1, 1) := by decide +kernel
theorem dX8_seen_20 : decode cX8_seen 20 = .ok (.iload_n 3, 1) := by decide +kernel
theorem dX8_seen_21 : decode cX8_seen 21 = .ok (.lshl, 1) := by decide +kernel
theorem dX8_seen_22 : decode cX8_seen 22 = .ok (.goto 4, 3) := by decide +kernel
theorem dX8_seen_25 : decode cX8_seen 25 = .ok (.lconst 0, 1) := by decide +kernel
theorem dX8_seen_26 : decode cX8_seen 26 = .ok (.lor, 1) := by decide +kernel
theorem dX8_seen_27 : decode cX8_seen 27 = .ok (.lstore_n 1, 1) := by decide +kernel
theorem dX8_seen_28 : decode cX8_seen 28 = .ok (.iinc 3 1, 3) := by decide +kernel
theorem dX8_seen_31 : decode cX8_seen 31 = .ok (.goto (-27), 3) := by decide +kernel
theorem dX8_seen_34 : decode cX8_seen 34 = .ok (.lload_n 1, 1) := by decide +kernel
theorem dX8_seen_35 : decode cX8_seen 35 = .ok (.lreturn, 1) := by decide +kernel
set_option maxRecDepth 20000 in
theorem ggX8_isAhead_X8_in : GoodIn wsX8_isAhead wsX8_in := goodIn_r _ [5] (by decide +kernel) (by decide +kernel)
set_option maxRecDepth 20000 in
theorem gX8_isAhead_X8_in : GoodIn wsX8_isAhead (va_wsS RX8 58 yX8_in wsX8_in) := goodIn_app (goodIn_of _ (by decide +kernel)) ggX8_isAhead_X8_in
theorem dX8_isAhead_0 : decode cX8_isAhead 0 = .ok (.iload_n 0, 1) := by decide +kernel
theorem dX8_isAhead_1 : decode cX8_isAhead 1 = .ok (.i2l, 1) := by decide +kernel
theorem dX8_isAhead_2 : decode cX8_isAhead 2 = .ok (.lconst 0, 1) := by decide +kernel
theorem dX8_isAhead_3 : decode cX8_isAhead 3 = .ok (.ldc2_w 194, 3) := by decide +kernel
theorem dX8_isAhead_6 : decode cX8_isAhead 6 = .ok (.invokestatic 58, 3) := by decide +kernel
theorem dX8_isAhead_9 : decode cX8_isAhead 9 = .ok (.ireturn, 1) := by decide +kernel
set_option maxRecDepth 20000 in
theorem ggX8_ahead_X8_isBather : GoodIn wsX8_ahead wsX8_isBather := goodIn_r _ [5, 6, 7, 8, 4, 9, 106, 107, 108, 109, 110, 111, 112, 113, 114, 115, 116, 117, 118, 119, 120, 121, 122, 123, 124, 125] (by decide +kernel) (by decide +kernel)
set_option maxRecDepth 20000 in
theorem gX8_ahead_X8_isBather : GoodIn wsX8_ahead (wsV RX8 154 RX8 yX8_isBather wsX8_isBather) := goodIn_app (goodIn_of _ (by decide +kernel)) ggX8_ahead_X8_isBather
set_option maxRecDepth 20000 in
theorem ggX8_ahead_X8_isAhead : GoodIn wsX8_ahead wsX8_isAhead := goodIn_r _ [12, 13, 7, 8, 4, 9] (by decide +kernel) (by decide +kernel)
set_option maxRecDepth 20000 in
theorem gX8_ahead_X8_isAhead : GoodIn wsX8_ahead (va_wsS RX8 196 yX8_isAhead wsX8_isAhead) := goodIn_app (goodIn_of _ (by decide +kernel)) ggX8_ahead_X8_isAhead
set_option maxRecDepth 20000 in
theorem ggX8_ahead_X8_finds : GoodIn wsX8_ahead wsX8_finds := goodIn_r _ [17, 18, 19, 106, 107, 108, 109, 110, 111, 112, 113, 114, 115, 116, 117, 118, 119, 120, 121, 122, 123, 124, 125] (by decide +kernel) (by decide +kernel)
set_option maxRecDepth 20000 in
theorem gX8_ahead_X8_finds : GoodIn wsX8_ahead (wsV RX8 93 RX8 yX8_finds wsX8_finds) := goodIn_app (goodIn_of _ (by decide +kernel)) ggX8_ahead_X8_finds
set_option maxRecDepth 20000 in
theorem ggX8_ahead_X8_lends : GoodIn wsX8_ahead wsX8_lends := goodIn_r _ [23, 6, 24, 25, 26, 4, 27, 106, 107, 108, 109, 110, 111, 112, 113, 114, 115, 116, 117, 118, 119, 120, 121, 122, 123, 124, 125] (by decide +kernel) (by decide +kernel)
set_option maxRecDepth 20000 in
theorem gX8_ahead_X8_lends : GoodIn wsX8_ahead (wsV RX8 199 RX8 yX8_lends wsX8_lends) := goodIn_app (goodIn_of _ (by decide +kernel)) ggX8_ahead_X8_lends
set_option maxRecDepth 20000 in
theorem ggX8_ahead_X8_aMinute : GoodIn wsX8_ahead wsX8_aMinute := goodIn_r _ [31, 6, 32, 33, 34, 4, 35, 36, 37, 38, 39, 40, 41, 42, 43, 44, 45, 46, 47, 48, 49, 50, 51, 52, 53, 54, 55, 56, 57, 58, 59, 60, 61, 62, 63, 64, 65, 66, 67, 68, 7, 8, 9, 69, 70, 71, 72, 73, 74, 75, 76, 77, 78, 79, 80, 81, 82, 83, 84, 85, 86, 87, 88, 89, 90, 91, 92, 93, 94, 95, 96, 97, 98, 99, 100, 101, 106, 107, 108, 109, 110, 111, 112, 113, 114, 115, 116, 117, 118, 119, 120, 121, 122, 123, 124, 125] (by decide +kernel) (by decide +kernel)
set_option maxRecDepth 20000 in
theorem gX8_ahead_X8_aMinute : GoodIn wsX8_ahead (wsV RX8 181 RX8 yX8_aMinute wsX8_aMinute) := goodIn_app (goodIn_of _ (by decide +kernel)) ggX8_ahead_X8_aMinute
set_option maxRecDepth 20000 in
theorem ggX8_ahead_X8_its : GoodIn wsX8_ahead wsX8_its := goodIn_r _ [39, 6, 106, 107, 108, 109, 110, 111, 112, 113, 114, 115, 116, 117, 118, 119, 120, 121, 122, 123, 124, 125] (by decide +kernel) (by decide +kernel)
set_option maxRecDepth 20000 in
theorem gX8_ahead_X8_its : GoodIn wsX8_ahead (wsV RX8 99 RX8 yX8_its wsX8_its) := goodIn_app (goodIn_of _ (by decide +kernel)) ggX8_ahead_X8_its
set_option maxRecDepth 20000 in
theorem ggX8_ahead_X8_laysBack : GoodIn wsX8_ahead wsX8_laysBack := goodIn_r _ [105, 24, 6, 25, 26, 4, 27, 106, 107, 108, 109, 110, 111, 112, 113, 114, 115, 116, 117, 118, 119, 120, 121, 122, 123, 124, 125] (by decide +kernel) (by decide +kernel)
set_option maxRecDepth 20000 in
theorem gX8_ahead_X8_laysBack : GoodIn wsX8_ahead (wsV RX8 202 RX8 yX8_laysBack wsX8_laysBack) := goodIn_app (goodIn_of _ (by decide +kernel)) ggX8_ahead_X8_laysBack
theorem dX8_ahead_0 : decode cX8_ahead 0 = .ok (.aload_n 0, 1) := by decide +kernel
theorem dX8_ahead_1 : decode cX8_ahead 1 = .ok (.iload_n 1, 1) := by decide +kernel
theorem dX8_ahead_2 : decode cX8_ahead 2 = .ok (.invokevirtual 154, 3) := by decide +kernel
theorem dX8_ahead_5 : decode cX8_ahead 5 = .ok (.ifCond .eq 10, 3) := by decide +kernel
theorem dX8_ahead_8 : decode cX8_ahead 8 = .ok (.iload_n 2, 1) := by decide +kernel
theorem dX8_ahead_9 : decode cX8_ahead 9 = .ok (.invokestatic 196, 3) := by decide +kernel
theorem dX8_ahead_12 : decode cX8_ahead 12 = .ok (.ifCond .ne 9, 3) := by decide +kernel
theorem dX8_ahead_15 : decode cX8_ahead 15 = .ok (.aload_n 0, 1) := by decide +kernel
theorem dX8_ahead_16 : decode cX8_ahead 16 = .ok (.iconst 0, 1) := by decide +kernel
theorem dX8_ahead_17 : decode cX8_ahead 17 = .ok (.invokevirtual 93, 3) := by decide +kernel
theorem dX8_ahead_20 : decode cX8_ahead 20 = .ok (.ireturn, 1) := by decide +kernel
theorem dX8_ahead_21 : decode cX8_ahead 21 = .ok (.aload_n 0, 1) := by decide +kernel
theorem dX8_ahead_22 : decode cX8_ahead 22 = .ok (.invokevirtual 199, 3) := by decide +kernel
theorem dX8_ahead_25 : decode cX8_ahead 25 = .ok (.iconst 0, 1) := by decide +kernel
theorem dX8_ahead_26 : decode cX8_ahead 26 = .ok (.istore_n 3, 1) := by decide +kernel
theorem dX8_ahead_27 : decode cX8_ahead 27 = .ok (.iload_n 3, 1) := by decide +kernel
theorem dX8_ahead_28 : decode cX8_ahead 28 = .ok (.iload_n 2, 1) := by decide +kernel
theorem dX8_ahead_29 : decode cX8_ahead 29 = .ok (.if_icmp .ge 13, 3) := by decide +kernel
theorem dX8_ahead_32 : decode cX8_ahead 32 = .ok (.aload_n 0, 1) := by decide +kernel
theorem dX8_ahead_33 : decode cX8_ahead 33 = .ok (.invokevirtual 181, 3) := by decide +kernel
theorem dX8_ahead_36 : decode cX8_ahead 36 = .ok (.iinc 3 1, 3) := by decide +kernel
theorem dX8_ahead_39 : decode cX8_ahead 39 = .ok (.goto (-12), 3) := by decide +kernel
theorem dX8_ahead_42 : decode cX8_ahead 42 = .ok (.aload_n 0, 1) := by decide +kernel
theorem dX8_ahead_43 : decode cX8_ahead 43 = .ok (.iload_n 1, 1) := by decide +kernel
theorem dX8_ahead_44 : decode cX8_ahead 44 = .ok (.iconst 1, 1) := by decide +kernel
theorem dX8_ahead_45 : decode cX8_ahead 45 = .ok (.invokevirtual 99, 3) := by decide +kernel
theorem dX8_ahead_48 : decode cX8_ahead 48 = .ok (.istore_n 3, 1) := by decide +kernel
theorem dX8_ahead_49 : decode cX8_ahead 49 = .ok (.aload_n 0, 1) := by decide +kernel
theorem dX8_ahead_50 : decode cX8_ahead 50 = .ok (.invokevirtual 202, 3) := by decide +kernel
theorem dX8_ahead_53 : decode cX8_ahead 53 = .ok (.iload_n 3, 1) := by decide +kernel
theorem dX8_ahead_54 : decode cX8_ahead 54 = .ok (.ireturn, 1) := by decide +kernel
set_option maxRecDepth 20000 in
theorem ggX8_isSo_X8_isIn : GoodIn wsX8_isSo wsX8_isIn := goodIn_r _ [5, 6, 7, 8, 4, 9, 10, 34, 35, 36, 37, 38, 39, 40, 41, 42, 43, 44, 45, 46, 47, 48, 49, 50, 51, 52, 53] (by decide +kernel) (by decide +kernel)
set_option maxRecDepth 20000 in
theorem gX8_isSo_X8_isIn : GoodIn wsX8_isSo (wsV RX8 151 RX8 yX8_isIn wsX8_isIn) := goodIn_app (goodIn_of _ (by decide +kernel)) ggX8_isSo_X8_isIn
set_option maxRecDepth 20000 in
theorem ggX8_isSo_X8_isCaught : GoodIn wsX8_isSo wsX8_isCaught := goodIn_r _ [14, 1, 2, 3, 4, 5, 6, 7, 8, 9, 10, 15, 16, 17, 18, 19, 20, 21, 22, 23, 24, 25, 26, 27, 28, 29, 30, 31, 32, 33, 34, 35, 36, 37, 38, 39, 40, 41, 42, 43, 44, 45, 46, 47, 48, 49, 50, 51, 52, 53] (by decide +kernel) (by decide +kernel)
set_option maxRecDepth 20000 in
theorem gX8_isSo_X8_isCaught : GoodIn wsX8_isSo (wsV RX8 157 RX8 yX8_isCaught wsX8_isCaught) := goodIn_app (goodIn_of _ (by decide +kernel)) ggX8_isSo_X8_isCaught
set_option maxRecDepth 20000 in
theorem ggX8_isSo_X8_its : GoodIn wsX8_isSo wsX8_its := goodIn_r _ [9, 10, 34, 35, 36, 37, 38, 39, 40, 41, 42, 43, 44, 45, 46, 47, 48, 49, 50, 51, 52, 53] (by decide +kernel) (by decide +kernel)
set_option maxRecDepth 20000 in
theorem gX8_isSo_X8_its : GoodIn wsX8_isSo (wsV RX8 99 RX8 yX8_its wsX8_its) := goodIn_app (goodIn_of _ (by decide +kernel)) ggX8_isSo_X8_its
theorem dX8_isSo_0 : decode cX8_isSo 0 = .ok (.iload_n 2, 1) := by decide +kernel
theorem dX8_isSo_1 : decode cX8_isSo 1 = .ok (.lookupswitch 47 #[(0, 27), (1, 41)], 27) := by decide +kernel
theorem dX8_isSo_28 : decode cX8_isSo 28 = .ok (.aload_n 0, 1) := by decide +kernel
theorem dX8_isSo_29 : decode cX8_isSo 29 = .ok (.iload_n 1, 1) := by decide +kernel
theorem dX8_isSo_30 : decode cX8_isSo 30 = .ok (.invokevirtual 151, 3) := by decide +kernel
theorem dX8_isSo_33 : decode cX8_isSo 33 = .ok (.ifCond .ne 7, 3) := by decide +kernel
theorem dX8_isSo_36 : decode cX8_isSo 36 = .ok (.iconst 1, 1) := by decide +kernel
theorem dX8_isSo_37 : decode cX8_isSo 37 = .ok (.goto 4, 3) := by decide +kernel
theorem dX8_isSo_40 : decode cX8_isSo 40 = .ok (.iconst 0, 1) := by decide +kernel
theorem dX8_isSo_41 : decode cX8_isSo 41 = .ok (.ireturn, 1) := by decide +kernel
theorem dX8_isSo_42 : decode cX8_isSo 42 = .ok (.aload_n 0, 1) := by decide +kernel
theorem dX8_isSo_43 : decode cX8_isSo 43 = .ok (.iload_n 1, 1) := by decide +kernel
theorem dX8_isSo_44 : decode cX8_isSo 44 = .ok (.invokevirtual 157, 3) := by decide +kernel
theorem dX8_isSo_47 : decode cX8_isSo 47 = .ok (.ireturn, 1) := by decide +kernel
theorem dX8_isSo_48 : decode cX8_isSo 48 = .ok (.aload_n 0, 1) := by decide +kernel
theorem dX8_isSo_49 : decode cX8_isSo 49 = .ok (.iload_n 1, 1) := by decide +kernel
theorem dX8_isSo_50 : decode cX8_isSo 50 = .ok (.invokevirtual 151, 3) := by decide +kernel
theorem dX8_isSo_53 : decode cX8_isSo 53 = .ok (.ifCond .eq 22, 3) := by decide +kernel
theorem dX8_isSo_56 : decode cX8_isSo 56 = .ok (.aload_n 0, 1) := by decide +kernel
theorem dX8_isSo_57 : decode cX8_isSo 57 = .ok (.iload_n 1, 1) := by decide +kernel
theorem dX8_isSo_58 : decode cX8_isSo 58 = .ok (.iconst 1, 1) := by decide +kernel
theorem dX8_isSo_59 : decode cX8_isSo 59 = .ok (.invokevirtual 99, 3) := by decide +kernel
theorem dX8_isSo_62 : decode cX8_isSo 62 = .ok (.aload_n 0, 1) := by decide +kernel
theorem dX8_isSo_63 : decode cX8_isSo 63 = .ok (.iload_n 3, 1) := by decide +kernel
theorem dX8_isSo_64 : decode cX8_isSo 64 = .ok (.iconst 1, 1) := by decide +kernel
theorem dX8_isSo_65 : decode cX8_isSo 65 = .ok (.invokevirtual 99, 3) := by decide +kernel
theorem dX8_isSo_68 : decode cX8_isSo 68 = .ok (.if_icmp .ne 7, 3) := by decide +kernel
theorem dX8_isSo_71 : decode cX8_isSo 71 = .ok (.iconst 1, 1) := by decide +kernel
theorem dX8_isSo_72 : decode cX8_isSo 72 = .ok (.goto 4, 3) := by decide +kernel
theorem dX8_isSo_75 : decode cX8_isSo 75 = .ok (.iconst 0, 1) := by decide +kernel
theorem dX8_isSo_76 : decode cX8_isSo 76 = .ok (.ireturn, 1) := by decide +kernel
set_option maxRecDepth 20000 in
theorem ggX8_until_X8_lends : GoodIn wsX8_until wsX8_lends := goodIn_r _ [5, 6, 7, 8, 9, 4, 10, 100, 101, 102, 103, 104, 105, 106, 107, 108, 109, 110, 111, 112, 113, 114, 115, 116, 117, 118, 119] (by decide +kernel) (by decide +kernel)
set_option maxRecDepth 20000 in
theorem gX8_until_X8_lends : GoodIn wsX8_until (wsV RX8 199 RX8 yX8_lends wsX8_lends) := goodIn_app (goodIn_of _ (by decide +kernel)) ggX8_until_X8_lends
set_option maxRecDepth 20000 in
theorem ggX8_until_X8_isSo : GoodIn wsX8_until wsX8_isSo := goodIn_r _ [14, 15, 16, 17, 4, 18, 19, 20, 21, 22, 6, 23, 24, 25, 26, 27, 28, 29, 30, 31, 32, 33, 34, 35, 36, 37, 38, 39, 40, 41, 42, 43, 44, 45, 100, 101, 102, 103, 104, 105, 106, 107, 108, 109, 110, 111, 112, 113, 114, 115, 116, 117, 118, 119] (by decide +kernel) (by decide +kernel)
set_option maxRecDepth 20000 in
theorem gX8_until_X8_isSo : GoodIn wsX8_until (wsV RX8 205 RX8 yX8_isSo wsX8_isSo) := goodIn_app (goodIn_of _ (by decide +kernel)) ggX8_until_X8_isSo
set_option maxRecDepth 20000 in
theorem ggX8_until_X8_aMinute : GoodIn wsX8_until wsX8_aMinute := goodIn_r _ [49, 6, 15, 16, 17, 4, 18, 19, 20, 21, 22, 50, 51, 52, 53, 54, 55, 44, 56, 57, 58, 59, 60, 61, 62, 63, 64, 65, 66, 67, 68, 69, 70, 71, 72, 73, 74, 75, 76, 77, 78, 79, 80, 81, 82, 83, 27, 28, 29, 30, 31, 32, 33, 34, 35, 36, 37, 38, 39, 40, 41, 42, 43, 45, 84, 85, 86, 87, 88, 89, 90, 91, 92, 93, 94, 95, 100, 101, 102, 103, 104, 105, 106, 107, 108, 109, 110, 111, 112, 113, 114, 115, 116, 117, 118, 119] (by decide +kernel) (by decide +kernel)
set_option maxRecDepth 20000 in
theorem gX8_until_X8_aMinute : GoodIn wsX8_until (wsV RX8 181 RX8 yX8_aMinute wsX8_aMinute) := goodIn_app (goodIn_of _ (by decide +kernel)) ggX8_until_X8_aMinute
set_option maxRecDepth 20000 in
theorem ggX8_until_X8_laysBack : GoodIn wsX8_until wsX8_laysBack := goodIn_r _ [99, 7, 6, 8, 9, 4, 10, 100, 101, 102, 103, 104, 105, 106, 107, 108, 109, 110, 111, 112, 113, 114, 115, 116, 117, 118, 119] (by decide +kernel) (by decide +kernel)
set_option maxRecDepth 20000 in
theorem gX8_until_X8_laysBack : GoodIn wsX8_until (wsV RX8 202 RX8 yX8_laysBack wsX8_laysBack) := goodIn_app (goodIn_of _ (by decide +kernel)) ggX8_until_X8_laysBack
theorem dX8_until_0 : decode cX8_until 0 = .ok (.aload_n 0, 1) := by decide +kernel
theorem dX8_until_1 : decode cX8_until 1 = .ok (.invokevirtual 199, 3) := by decide +kernel
theorem dX8_until_4 : decode cX8_until 4 = .ok (.iconst 0, 1) := by decide +kernel
theorem dX8_until_5 : decode cX8_until 5 = .ok (.istore 4, 2) := by decide +kernel
theorem dX8_until_7 : decode cX8_until 7 = .ok (.iload 4, 2) := by decide +kernel
theorem dX8_until_9 : decode cX8_until 9 = .ok (.bipush 100, 2) := by decide +kernel
theorem dX8_until_11 : decode cX8_until 11 = .ok (.if_icmp .gt 23, 3) := by decide +kernel
theorem dX8_until_14 : decode cX8_until 14 = .ok (.aload_n 0, 1) := by decide +kernel
theorem dX8_until_15 : decode cX8_until 15 = .ok (.iload_n 1, 1) := by decide +kernel
theorem dX8_until_16 : decode cX8_until 16 = .ok (.iload_n 2, 1) := by decide +kernel
theorem dX8_until_17 : decode cX8_until 17 = .ok (.iload_n 3, 1) := by decide +kernel
theorem dX8_until_18 : decode cX8_until 18 = .ok (.invokevirtual 205, 3) := by decide +kernel
theorem dX8_until_21 : decode cX8_until 21 = .ok (.ifCond .ne 13, 3) := by decide +kernel
theorem dX8_until_24 : decode cX8_until 24 = .ok (.aload_n 0, 1) := by decide +kernel
theorem dX8_until_25 : decode cX8_until 25 = .ok (.invokevirtual 181, 3) := by decide +kernel
theorem dX8_until_28 : decode cX8_until 28 = .ok (.iinc 4 1, 3) := by decide +kernel
theorem dX8_until_31 : decode cX8_until 31 = .ok (.goto (-24), 3) := by decide +kernel
theorem dX8_until_34 : decode cX8_until 34 = .ok (.aload_n 0, 1) := by decide +kernel
theorem dX8_until_35 : decode cX8_until 35 = .ok (.invokevirtual 202, 3) := by decide +kernel
theorem dX8_until_38 : decode cX8_until 38 = .ok (.iload 4, 2) := by decide +kernel
theorem dX8_until_40 : decode cX8_until 40 = .ok (.ireturn, 1) := by decide +kernel
set_option maxRecDepth 20000 in
theorem ggX8_orNone_X8_finds : GoodIn wsX8_orNone wsX8_finds := goodIn_r _ [5, 6, 7, 8, 9, 10, 11, 12, 13, 14, 15, 16, 17, 18, 19, 20, 21, 22, 23, 24, 25, 26, 27] (by decide +kernel) (by decide +kernel)
set_option maxRecDepth 20000 in
theorem gX8_orNone_X8_finds : GoodIn wsX8_orNone (wsV RX8 93 RX8 yX8_finds wsX8_finds) := goodIn_app (goodIn_of _ (by decide +kernel)) ggX8_orNone_X8_finds
theorem dX8_orNone_0 : decode cX8_orNone 0 = .ok (.iload_n 1, 1) := by decide +kernel
theorem dX8_orNone_1 : decode cX8_orNone 1 = .ok (.bipush 100, 2) := by decide +kernel
theorem dX8_orNone_3 : decode cX8_orNone 3 = .ok (.if_icmp .gt 7, 3) := by decide +kernel
theorem dX8_orNone_6 : decode cX8_orNone 6 = .ok (.iload_n 1, 1) := by decide +kernel
theorem dX8_orNone_7 : decode cX8_orNone 7 = .ok (.goto 8, 3) := by decide +kernel
theorem dX8_orNone_10 : decode cX8_orNone 10 = .ok (.aload_n 0, 1) := by decide +kernel
theorem dX8_orNone_11 : decode cX8_orNone 11 = .ok (.iconst 3, 1) := by decide +kernel
theorem dX8_orNone_12 : decode cX8_orNone 12 = .ok (.invokevirtual 93, 3) := by decide +kernel
theorem dX8_orNone_15 : decode cX8_orNone 15 = .ok (.ireturn, 1) := by decide +kernel
set_option maxRecDepth 20000 in
theorem ggX8_out_X8_isBather : GoodIn wsX8_out wsX8_isBather := goodIn_r _ [5, 6, 7, 8, 4, 9, 118, 119, 120, 121, 122, 123, 124, 125, 126, 127, 128, 129, 130, 131, 132, 133, 134, 135, 136, 137] (by decide +kernel) (by decide +kernel)
set_option maxRecDepth 20000 in
theorem gX8_out_X8_isBather : GoodIn wsX8_out (wsV RX8 154 RX8 yX8_isBather wsX8_isBather) := goodIn_app (goodIn_of _ (by decide +kernel)) ggX8_out_X8_isBather
set_option maxRecDepth 20000 in
theorem ggX8_out_X8_until : GoodIn wsX8_out wsX8_until := goodIn_r _ [13, 14, 15, 16, 4, 17, 6, 18, 19, 20, 21, 22, 23, 24, 25, 26, 27, 28, 29, 30, 31, 32, 33, 34, 35, 36, 37, 38, 39, 40, 41, 42, 43, 44, 45, 46, 47, 48, 49, 50, 51, 52, 53, 54, 55, 56, 57, 58, 59, 60, 61, 62, 63, 64, 65, 66, 67, 68, 69, 70, 71, 72, 73, 74, 75, 76, 77, 78, 79, 80, 81, 82, 83, 84, 85, 86, 87, 88, 7, 8, 9, 89, 90, 91, 92, 93, 94, 95, 96, 97, 98, 99, 100, 101, 102, 103, 104, 105, 106, 107, 118, 119, 120, 121, 122, 123, 124, 125, 126, 127, 128, 129, 130, 131, 132, 133, 134, 135, 136, 137] (by decide +kernel) (by decide +kernel)
set_option maxRecDepth 20000 in
theorem gX8_out_X8_until : GoodIn wsX8_out (wsV RX8 209 RX8 yX8_until wsX8_until) := goodIn_app (goodIn_of _ (by decide +kernel)) ggX8_out_X8_until
set_option maxRecDepth 20000 in
theorem ggX8_out_X8_orNone : GoodIn wsX8_out wsX8_orNone := goodIn_r _ [111, 112, 113, 114, 4, 115, 116, 117, 118, 119, 120, 121, 122, 123, 124, 125, 126, 127, 128, 129, 130, 131, 132, 133, 134, 135, 136, 137] (by decide +kernel) (by decide +kernel)
set_option maxRecDepth 20000 in
theorem gX8_out_X8_orNone : GoodIn wsX8_out (wsV RX8 213 RX8 yX8_orNone wsX8_orNone) := goodIn_app (goodIn_of _ (by decide +kernel)) ggX8_out_X8_orNone
set_option maxRecDepth 20000 in
theorem ggX8_out_X8_finds : GoodIn wsX8_out wsX8_finds := goodIn_r _ [115, 116, 117, 118, 119, 120, 121, 122, 123, 124, 125, 126, 127, 128, 129, 130, 131, 132, 133, 134, 135, 136, 137] (by decide +kernel) (by decide +kernel)
set_option maxRecDepth 20000 in
theorem gX8_out_X8_finds : GoodIn wsX8_out (wsV RX8 93 RX8 yX8_finds wsX8_finds) := goodIn_app (goodIn_of _ (by decide +kernel)) ggX8_out_X8_finds
theorem dX8_out_0 : decode cX8_out 0 = .ok (.aload_n 0, 1) := by decide +kernel
theorem dX8_out_1 : decode cX8_out 1 = .ok (.iload_n 1, 1) := by decide +kernel
theorem dX8_out_2 : decode cX8_out 2 = .ok (.invokevirtual 154, 3) := by decide +kernel
theorem dX8_out_5 : decode cX8_out 5 = .ok (.ifCond .eq 17, 3) := by decide +kernel
theorem dX8_out_8 : decode cX8_out 8 = .ok (.aload_n 0, 1) := by decide +kernel
theorem dX8_out_9 : decode cX8_out 9 = .ok (.aload_n 0, 1) := by decide +kernel
theorem dX8_out_10 : decode cX8_out 10 = .ok (.iload_n 1, 1) := by decide +kernel
theorem dX8_out_11 : decode cX8_out 11 = .ok (.iconst 0, 1) := by decide +kernel
theorem dX8_out_12 : decode cX8_out 12 = .ok (.iconst 0, 1) := by decide +kernel
theorem dX8_out_13 : decode cX8_out 13 = .ok (.invokevirtual 209, 3) := by decide +kernel
theorem dX8_out_16 : decode cX8_out 16 = .ok (.invokevirtual 213, 3) := by decide +kernel
theorem dX8_out_19 : decode cX8_out 19 = .ok (.goto 8, 3) := by decide +kernel
theorem dX8_out_22 : decode cX8_out 22 = .ok (.aload_n 0, 1) := by decide +kernel
theorem dX8_out_23 : decode cX8_out 23 = .ok (.iconst 0, 1) := by decide +kernel
theorem dX8_out_24 : decode cX8_out 24 = .ok (.invokevirtual 93, 3) := by decide +kernel
theorem dX8_out_27 : decode cX8_out 27 = .ok (.ireturn, 1) := by decide +kernel
set_option maxRecDepth 20000 in
theorem ggX8_caught_X8_isBather : GoodIn wsX8_caught wsX8_isBather := goodIn_r _ [5, 6, 7, 8, 4, 9, 118, 119, 120, 121, 122, 123, 124, 125, 126, 127, 128, 129, 130, 131, 132, 133, 134, 135, 136, 137] (by decide +kernel) (by decide +kernel)
set_option maxRecDepth 20000 in
theorem gX8_caught_X8_isBather : GoodIn wsX8_caught (wsV RX8 154 RX8 yX8_isBather wsX8_isBather) := goodIn_app (goodIn_of _ (by decide +kernel)) ggX8_caught_X8_isBather
set_option maxRecDepth 20000 in
theorem ggX8_caught_X8_until : GoodIn wsX8_caught wsX8_until := goodIn_r _ [13, 14, 15, 16, 4, 17, 6, 18, 19, 20, 21, 22, 23, 24, 25, 26, 27, 28, 29, 30, 31, 32, 33, 34, 35, 36, 37, 38, 39, 40, 41, 42, 43, 44, 45, 46, 47, 48, 49, 50, 51, 52, 53, 54, 55, 56, 57, 58, 59, 60, 61, 62, 63, 64, 65, 66, 67, 68, 69, 70, 71, 72, 73, 74, 75, 76, 77, 78, 79, 80, 81, 82, 83, 84, 85, 86, 87, 88, 7, 8, 9, 89, 90, 91, 92, 93, 94, 95, 96, 97, 98, 99, 100, 101, 102, 103, 104, 105, 106, 107, 118, 119, 120, 121, 122, 123, 124, 125, 126, 127, 128, 129, 130, 131, 132, 133, 134, 135, 136, 137] (by decide +kernel) (by decide +kernel)
set_option maxRecDepth 20000 in
theorem gX8_caught_X8_until : GoodIn wsX8_caught (wsV RX8 209 RX8 yX8_until wsX8_until) := goodIn_app (goodIn_of _ (by decide +kernel)) ggX8_caught_X8_until
set_option maxRecDepth 20000 in
theorem ggX8_caught_X8_orNone : GoodIn wsX8_caught wsX8_orNone := goodIn_r _ [111, 112, 113, 114, 4, 115, 116, 117, 118, 119, 120, 121, 122, 123, 124, 125, 126, 127, 128, 129, 130, 131, 132, 133, 134, 135, 136, 137] (by decide +kernel) (by decide +kernel)
set_option maxRecDepth 20000 in
theorem gX8_caught_X8_orNone : GoodIn wsX8_caught (wsV RX8 213 RX8 yX8_orNone wsX8_orNone) := goodIn_app (goodIn_of _ (by decide +kernel)) ggX8_caught_X8_orNone
set_option maxRecDepth 20000 in
theorem ggX8_caught_X8_finds : GoodIn wsX8_caught wsX8_finds := goodIn_r _ [115, 116, 117, 118, 119, 120, 121, 122, 123, 124, 125, 126, 127, 128, 129, 130, 131, 132, 133, 134, 135, 136, 137] (by decide +kernel) (by decide +kernel)
set_option maxRecDepth 20000 in
theorem gX8_caught_X8_finds : GoodIn wsX8_caught (wsV RX8 93 RX8 yX8_finds wsX8_finds) := goodIn_app (goodIn_of _ (by decide +kernel)) ggX8_caught_X8_finds
theorem dX8_caught_0 : decode cX8_caught 0 = .ok (.aload_n 0, 1) := by decide +kernel
theorem dX8_caught_1 : decode cX8_caught 1 = .ok (.iload_n 1, 1) := by decide +kernel
theorem dX8_caught_2 : decode cX8_caught 2 = .ok (.invokevirtual 154, 3) := by decide +kernel
theorem dX8_caught_5 : decode cX8_caught 5 = .ok (.ifCond .eq 17, 3) := by decide +kernel
theorem dX8_caught_8 : decode cX8_caught 8 = .ok (.aload_n 0, 1) := by decide +kernel
theorem dX8_caught_9 : decode cX8_caught 9 = .ok (.aload_n 0, 1) := by decide +kernel
theorem dX8_caught_10 : decode cX8_caught 10 = .ok (.iload_n 1, 1) := by decide +kernel
theorem dX8_caught_11 : decode cX8_caught 11 = .ok (.iconst 1, 1) := by decide +kernel
theorem dX8_caught_12 : decode cX8_caught 12 = .ok (.iconst 0, 1) := by decide +kernel
theorem dX8_caught_13 : decode cX8_caught 13 = .ok (.invokevirtual 209, 3) := by decide +kernel
theorem dX8_caught_16 : decode cX8_caught 16 = .ok (.invokevirtual 213, 3) := by decide +kernel
theorem dX8_caught_19 : decode cX8_caught 19 = .ok (.goto 8, 3) := by decide +kernel
theorem dX8_caught_22 : decode cX8_caught 22 = .ok (.aload_n 0, 1) := by decide +kernel
theorem dX8_caught_23 : decode cX8_caught 23 = .ok (.iconst 0, 1) := by decide +kernel
theorem dX8_caught_24 : decode cX8_caught 24 = .ok (.invokevirtual 93, 3) := by decide +kernel
theorem dX8_caught_27 : decode cX8_caught 27 = .ok (.ireturn, 1) := by decide +kernel
set_option maxRecDepth 20000 in
theorem ggX8_meet_X8_isBather : GoodIn wsX8_meet wsX8_isBather := goodIn_r _ [5, 6, 7, 8, 4, 9, 118, 119, 120, 121, 122, 123, 124, 125, 126, 127, 128, 129, 130, 131, 132, 133, 134, 135, 136, 137] (by decide +kernel) (by decide +kernel)
set_option maxRecDepth 20000 in
theorem gX8_meet_X8_isBather : GoodIn wsX8_meet (wsV RX8 154 RX8 yX8_isBather wsX8_isBather) := goodIn_app (goodIn_of _ (by decide +kernel)) ggX8_meet_X8_isBather
set_option maxRecDepth 20000 in
theorem ggX8_meet_X8_until : GoodIn wsX8_meet wsX8_until := goodIn_r _ [13, 14, 15, 16, 4, 17, 6, 18, 19, 20, 21, 22, 23, 24, 25, 26, 27, 28, 29, 30, 31, 32, 33, 34, 35, 36, 37, 38, 39, 40, 41, 42, 43, 44, 45, 46, 47, 48, 49, 50, 51, 52, 53, 54, 55, 56, 57, 58, 59, 60, 61, 62, 63, 64, 65, 66, 67, 68, 69, 70, 71, 72, 73, 74, 75, 76, 77, 78, 79, 80, 81, 82, 83, 84, 85, 86, 87, 88, 7, 8, 9, 89, 90, 91, 92, 93, 94, 95, 96, 97, 98, 99, 100, 101, 102, 103, 104, 105, 106, 107, 118, 119, 120, 121, 122, 123, 124, 125, 126, 127, 128, 129, 130, 131, 132, 133, 134, 135, 136, 137] (by decide +kernel) (by decide +kernel)
set_option maxRecDepth 20000 in
theorem gX8_meet_X8_until : GoodIn wsX8_meet (wsV RX8 209 RX8 yX8_until wsX8_until) := goodIn_app (goodIn_of _ (by decide +kernel)) ggX8_meet_X8_until
set_option maxRecDepth 20000 in
theorem ggX8_meet_X8_orNone : GoodIn wsX8_meet wsX8_orNone := goodIn_r _ [111, 112, 113, 114, 4, 115, 116, 117, 118, 119, 120, 121, 122, 123, 124, 125, 126, 127, 128, 129, 130, 131, 132, 133, 134, 135, 136, 137] (by decide +kernel) (by decide +kernel)
set_option maxRecDepth 20000 in
theorem gX8_meet_X8_orNone : GoodIn wsX8_meet (wsV RX8 213 RX8 yX8_orNone wsX8_orNone) := goodIn_app (goodIn_of _ (by decide +kernel)) ggX8_meet_X8_orNone
set_option maxRecDepth 20000 in
theorem ggX8_meet_X8_finds : GoodIn wsX8_meet wsX8_finds := goodIn_r _ [115, 116, 117, 118, 119, 120, 121, 122, 123, 124, 125, 126, 127, 128, 129, 130, 131, 132, 133, 134, 135, 136, 137] (by decide +kernel) (by decide +kernel)
set_option maxRecDepth 20000 in
theorem gX8_meet_X8_finds : GoodIn wsX8_meet (wsV RX8 93 RX8 yX8_finds wsX8_finds) := goodIn_app (goodIn_of _ (by decide +kernel)) ggX8_meet_X8_finds
theorem dX8_meet_0 : decode cX8_meet 0 = .ok (.aload_n 0, 1) := by decide +kernel
theorem dX8_meet_1 : decode cX8_meet 1 = .ok (.iload_n 1, 1) := by decide +kernel
theorem dX8_meet_2 : decode cX8_meet 2 = .ok (.invokevirtual 154, 3) := by decide +kernel
theorem dX8_meet_5 : decode cX8_meet 5 = .ok (.ifCond .eq 30, 3) := by decide +kernel
theorem dX8_meet_8 : decode cX8_meet 8 = .ok (.aload_n 0, 1) := by decide +kernel
theorem dX8_meet_9 : decode cX8_meet 9 = .ok (.iload_n 2, 1) := by decide +kernel
theorem dX8_meet_10 : decode cX8_meet 10 = .ok (.invokevirtual 154, 3) := by decide +kernel
theorem dX8_meet_13 : decode cX8_meet 13 = .ok (.ifCond .eq 22, 3) := by decide +kernel
theorem dX8_meet_16 : decode cX8_meet 16 = .ok (.iload_n 1, 1) := by decide +kernel
theorem dX8_meet_17 : decode cX8_meet 17 = .ok (.iload_n 2, 1) := by decide +kernel
theorem dX8_meet_18 : decode cX8_meet 18 = .ok (.if_icmp .eq 17, 3) := by decide +kernel
theorem dX8_meet_21 : decode cX8_meet 21 = .ok (.aload_n 0, 1) := by decide +kernel
theorem dX8_meet_22 : decode cX8_meet 22 = .ok (.aload_n 0, 1) := by decide +kernel
theorem dX8_meet_23 : decode cX8_meet 23 = .ok (.iload_n 1, 1) := by decide +kernel
theorem dX8_meet_24 : decode cX8_meet 24 = .ok (.iconst 2, 1) := by decide +kernel
theorem dX8_meet_25 : decode cX8_meet 25 = .ok (.iload_n 2, 1) := by decide +kernel
theorem dX8_meet_26 : decode cX8_meet 26 = .ok (.invokevirtual 209, 3) := by decide +kernel
theorem dX8_meet_29 : decode cX8_meet 29 = .ok (.invokevirtual 213, 3) := by decide +kernel
theorem dX8_meet_32 : decode cX8_meet 32 = .ok (.goto 8, 3) := by decide +kernel
theorem dX8_meet_35 : decode cX8_meet 35 = .ok (.aload_n 0, 1) := by decide +kernel
theorem dX8_meet_36 : decode cX8_meet 36 = .ok (.iconst 0, 1) := by decide +kernel
theorem dX8_meet_37 : decode cX8_meet 37 = .ok (.invokevirtual 93, 3) := by decide +kernel
theorem dX8_meet_40 : decode cX8_meet 40 = .ok (.ireturn, 1) := by decide +kernel
set_option maxRecDepth 20000 in
theorem ggX8_kindFor_X8_isBather : GoodIn wsX8_kindFor wsX8_isBather := goodIn_r _ [9, 10, 11, 12, 8, 13, 114, 115, 116, 117, 118, 119, 120, 121, 122, 123, 124, 125, 126, 127, 128, 129, 130, 131, 132, 133] (by decide +kernel) (by decide +kernel)
set_option maxRecDepth 20000 in
theorem gX8_kindFor_X8_isBather : GoodIn wsX8_kindFor (wsV RX8 154 RX8 yX8_isBather wsX8_isBather) := goodIn_app (goodIn_of _ (by decide +kernel)) ggX8_kindFor_X8_isBather
set_option maxRecDepth 20000 in
theorem ggX8_kindFor_X8_finds : GoodIn wsX8_kindFor wsX8_finds := goodIn_r _ [17, 18, 19, 114, 115, 116, 117, 118, 119, 120, 121, 122, 123, 124, 125, 126, 127, 128, 129, 130, 131, 132, 133] (by decide +kernel) (by decide +kernel)
set_option maxRecDepth 20000 in
theorem gX8_kindFor_X8_finds : GoodIn wsX8_kindFor (wsV RX8 93 RX8 yX8_finds wsX8_finds) := goodIn_app (goodIn_of _ (by decide +kernel)) ggX8_kindFor_X8_finds
set_option maxRecDepth 20000 in
theorem ggX8_kindFor_X8_its : GoodIn wsX8_kindFor wsX8_its := goodIn_r _ [23, 10, 114, 115, 116, 117, 118, 119, 120, 121, 122, 123, 124, 125, 126, 127, 128, 129, 130, 131, 132, 133] (by decide +kernel) (by decide +kernel)
set_option maxRecDepth 20000 in
theorem gX8_kindFor_X8_its : GoodIn wsX8_kindFor (wsV RX8 99 RX8 yX8_its wsX8_its) := goodIn_app (goodIn_of _ (by decide +kernel)) ggX8_kindFor_X8_its
set_option maxRecDepth 20000 in
theorem ggX8_kindFor_X8_sets : GoodIn wsX8_kindFor wsX8_sets := goodIn_r _ [27, 10, 114, 115, 116, 117, 118, 119, 120, 121, 122, 123, 124, 125, 126, 127, 128, 129, 130, 131, 132, 133] (by decide +kernel) (by decide +kernel)
set_option maxRecDepth 20000 in
theorem gX8_kindFor_X8_sets : GoodIn wsX8_kindFor (wsV RX8 141 RX8 yX8_sets wsX8_sets) := goodIn_app (goodIn_of _ (by decide +kernel)) ggX8_kindFor_X8_sets
set_option maxRecDepth 20000 in
theorem ggX8_kindFor_X8_until : GoodIn wsX8_kindFor wsX8_until := goodIn_r _ [31, 32, 33, 34, 8, 35, 10, 36, 37, 38, 39, 40, 41, 42, 43, 44, 45, 46, 47, 20, 21, 22, 23, 48, 49, 50, 51, 52, 53, 54, 55, 56, 57, 58, 59, 60, 61, 62, 63, 64, 65, 66, 67, 68, 3, 69, 70, 71, 72, 73, 74, 75, 76, 77, 1, 2, 4, 78, 24, 25, 26, 27, 79, 80, 81, 82, 83, 84, 85, 86, 87, 88, 89, 90, 91, 92, 93, 94, 11, 12, 13, 95, 96, 97, 98, 99, 100, 101, 102, 103, 104, 105, 106, 107, 108, 109, 110, 111, 112, 113, 114, 115, 116, 117, 118, 119, 120, 121, 122, 123, 124, 125, 126, 127, 128, 129, 130, 131, 132, 133] (by decide +kernel) (by decide +kernel)
set_option maxRecDepth 20000 in
theorem gX8_kindFor_X8_until : GoodIn wsX8_kindFor (wsV RX8 209 RX8 yX8_until wsX8_until) := goodIn_app (goodIn_of _ (by decide +kernel)) ggX8_kindFor_X8_until
theorem dX8_kindFor_0 : decode cX8_kindFor 0 = .ok (.aload_n 0, 1) := by decide +kernel
theorem dX8_kindFor_1 : decode cX8_kindFor 1 = .ok (.iload_n 1, 1) := by decide +kernel
theorem dX8_kindFor_2 : decode cX8_kindFor 2 = .ok (.invokevirtual 154, 3) := by decide +kernel
theorem dX8_kindFor_5 : decode cX8_kindFor 5 = .ok (.ifCond .ne 9, 3) := by decide +kernel
theorem dX8_kindFor_8 : decode cX8_kindFor 8 = .ok (.aload_n 0, 1) := by decide +kernel
theorem dX8_kindFor_9 : decode cX8_kindFor 9 = .ok (.iconst 0, 1) := by decide +kernel
theorem dX8_kindFor_10 : decode cX8_kindFor 10 = .ok (.invokevirtual 93, 3) := by decide +kernel
theorem dX8_kindFor_13 : decode cX8_kindFor 13 = .ok (.ireturn, 1) := by decide +kernel
theorem dX8_kindFor_14 : decode cX8_kindFor 14 = .ok (.aload_n 0, 1) := by decide +kernel
theorem dX8_kindFor_15 : decode cX8_kindFor 15 = .ok (.iload_n 1, 1) := by decide +kernel
theorem dX8_kindFor_16 : decode cX8_kindFor 16 = .ok (.iconst 0, 1) := by decide +kernel
theorem dX8_kindFor_17 : decode cX8_kindFor 17 = .ok (.invokevirtual 99, 3) := by decide +kernel
theorem dX8_kindFor_20 : decode cX8_kindFor 20 = .ok (.istore_n 2, 1) := by decide +kernel
theorem dX8_kindFor_21 : decode cX8_kindFor 21 = .ok (.iconst (-1), 1) := by decide +kernel
theorem dX8_kindFor_22 : decode cX8_kindFor 22 = .ok (.istore_n 3, 1) := by decide +kernel
theorem dX8_kindFor_23 : decode cX8_kindFor 23 = .ok (.bipush 101, 2) := by decide +kernel
theorem dX8_kindFor_25 : decode cX8_kindFor 25 = .ok (.istore 4, 2) := by decide +kernel
theorem dX8_kindFor_27 : decode cX8_kindFor 27 = .ok (.iconst 0, 1) := by decide +kernel
theorem dX8_kindFor_28 : decode cX8_kindFor 28 = .ok (.istore 5, 2) := by decide +kernel
theorem dX8_kindFor_30 : decode cX8_kindFor 30 = .ok (.iload 5, 2) := by decide +kernel
theorem dX8_kindFor_32 : decode cX8_kindFor 32 = .ok (.bipush 6, 2) := by decide +kernel
theorem dX8_kindFor_34 : decode cX8_kindFor 34 = .ok (.if_icmp .gt 49, 3) := by decide +kernel
theorem dX8_kindFor_37 : decode cX8_kindFor 37 = .ok (.aload_n 0, 1) := by decide +kernel
theorem dX8_kindFor_38 : decode cX8_kindFor 38 = .ok (.iload_n 1, 1) := by decide +kernel
theorem dX8_kindFor_39 : decode cX8_kindFor 39 = .ok (.iconst 0, 1) := by decide +kernel
theorem dX8_kindFor_40 : decode cX8_kindFor 40 = .ok (.iload 5, 2) := by decide +kernel
theorem dX8_kindFor_42 : decode cX8_kindFor 42 = .ok (.invokevirtual 141, 3) := by decide +kernel
theorem dX8_kindFor_45 : decode cX8_kindFor 45 = .ok (.aload_n 0, 1) := by decide +kernel
theorem dX8_kindFor_46 : decode cX8_kindFor 46 = .ok (.iload_n 1, 1) := by decide +kernel
theorem dX8_kindFor_47 : decode cX8_kindFor 47 = .ok (.iconst 0, 1) := by decide +kernel
theorem dX8_kindFor_48 : decode cX8_kindFor 48 = .ok (.iconst 0, 1) := by decide +kernel
theorem dX8_kindFor_49 : decode cX8_kindFor 49 = .ok (.invokevirtual 209, 3) := by decide +kernel
theorem dX8_kindFor_52 : decode cX8_kindFor 52 = .ok (.istore 6, 2) := by decide +kernel
theorem dX8_kindFor_54 : decode cX8_kindFor 54 = .ok (.iload 6, 2) := by decide +kernel
theorem dX8_kindFor_56 : decode cX8_kindFor 56 = .ok (.iload 4, 2) := by decide +kernel
theorem dX8_kindFor_58 : decode cX8_kindFor 58 = .ok (.if_icmp .ge 8, 3) := by decide +kernel
theorem dX8_kindFor_61 : decode cX8_kindFor 61 = .ok (.iload 5, 2) := by decide +kernel
theorem dX8_kindFor_63 : decode cX8_kindFor 63 = .ok (.goto 4, 3) := by decide +kernel
theorem dX8_kindFor_66 : decode cX8_kindFor 66 = .ok (.iload_n 3, 1) := by decide +kernel
theorem dX8_kindFor_67 : decode cX8_kindFor 67 = .ok (.istore_n 3, 1) := by decide +kernel
theorem dX8_kindFor_68 : decode cX8_kindFor 68 = .ok (.iload 4, 2) := by decide +kernel
theorem dX8_kindFor_70 : decode cX8_kindFor 70 = .ok (.iload 6, 2) := by decide +kernel
theorem dX8_kindFor_72 : decode cX8_kindFor 72 = .ok (.invokestatic 171, 3) := by decide +kernel
theorem dX8_kindFor_75 : decode cX8_kindFor 75 = .ok (.istore 4, 2) := by decide +kernel
theorem dX8_kindFor_77 : decode cX8_kindFor 77 = .ok (.iinc 5 1, 3) := by decide +kernel
theorem dX8_kindFor_80 : decode cX8_kindFor 80 = .ok (.goto (-50), 3) := by decide +kernel
theorem dX8_kindFor_83 : decode cX8_kindFor 83 = .ok (.aload_n 0, 1) := by decide +kernel
theorem dX8_kindFor_84 : decode cX8_kindFor 84 = .ok (.iload_n 1, 1) := by decide +kernel
theorem dX8_kindFor_85 : decode cX8_kindFor 85 = .ok (.iconst 0, 1) := by decide +kernel
theorem dX8_kindFor_86 : decode cX8_kindFor 86 = .ok (.iload_n 2, 1) := by decide +kernel
theorem dX8_kindFor_87 : decode cX8_kindFor 87 = .ok (.invokevirtual 141, 3) := by decide +kernel
theorem dX8_kindFor_90 : decode cX8_kindFor 90 = .ok (.iload_n 3, 1) := by decide +kernel
theorem dX8_kindFor_91 : decode cX8_kindFor 91 = .ok (.ifCond .ge 11, 3) := by decide +kernel
theorem dX8_kindFor_94 : decode cX8_kindFor 94 = .ok (.aload_n 0, 1) := by decide +kernel
theorem dX8_kindFor_95 : decode cX8_kindFor 95 = .ok (.iconst 3, 1) := by decide +kernel
theorem dX8_kindFor_96 : decode cX8_kindFor 96 = .ok (.invokevirtual 93, 3) := by decide +kernel
theorem dX8_kindFor_99 : decode cX8_kindFor 99 = .ok (.goto 4, 3) := by decide +kernel
theorem dX8_kindFor_102 : decode cX8_kindFor 102 = .ok (.iload_n 3, 1) := by decide +kernel
theorem dX8_kindFor_103 : decode cX8_kindFor 103 = .ok (.ireturn, 1) := by decide +kernel
set_option maxRecDepth 20000 in
theorem ggX8_sightFor_X8_isBather : GoodIn wsX8_sightFor wsX8_isBather := goodIn_r _ [6, 1, 7, 8, 5, 9, 114, 115, 116, 117, 118, 119, 120, 121, 122, 123, 124, 125, 126, 127, 128, 129, 130, 131, 132, 133] (by decide +kernel) (by decide +kernel)
set_option maxRecDepth 20000 in
theorem gX8_sightFor_X8_isBather : GoodIn wsX8_sightFor (wsV RX8 154 RX8 yX8_isBather wsX8_isBather) := goodIn_app (goodIn_of _ (by decide +kernel)) ggX8_sightFor_X8_isBather
set_option maxRecDepth 20000 in
theorem ggX8_sightFor_X8_finds : GoodIn wsX8_sightFor wsX8_finds := goodIn_r _ [13, 14, 15, 114, 115, 116, 117, 118, 119, 120, 121, 122, 123, 124, 125, 126, 127, 128, 129, 130, 131, 132, 133] (by decide +kernel) (by decide +kernel)
set_option maxRecDepth 20000 in
theorem gX8_sightFor_X8_finds : GoodIn wsX8_sightFor (wsV RX8 93 RX8 yX8_finds wsX8_finds) := goodIn_app (goodIn_of _ (by decide +kernel)) ggX8_sightFor_X8_finds
set_option maxRecDepth 20000 in
theorem ggX8_sightFor_X8_until : GoodIn wsX8_sightFor wsX8_until := goodIn_r _ [19, 20, 21, 22, 5, 23, 1, 24, 25, 26, 27, 28, 29, 30, 31, 32, 33, 34, 35, 36, 37, 38, 39, 40, 41, 42, 43, 44, 45, 46, 47, 48, 49, 50, 51, 52, 53, 54, 55, 56, 57, 58, 59, 60, 61, 62, 63, 64, 65, 66, 67, 68, 69, 70, 71, 72, 73, 74, 75, 76, 77, 78, 79, 80, 81, 82, 83, 84, 85, 86, 87, 88, 89, 90, 91, 92, 93, 94, 7, 8, 9, 95, 96, 97, 98, 99, 100, 101, 102, 103, 104, 105, 106, 107, 108, 109, 110, 111, 112, 113, 114, 115, 116, 117, 118, 119, 120, 121, 122, 123, 124, 125, 126, 127, 128, 129, 130, 131, 132, 133] (by decide +kernel) (by decide +kernel)
set_option maxRecDepth 20000 in
theorem gX8_sightFor_X8_until : GoodIn wsX8_sightFor (wsV RX8 209 RX8 yX8_until wsX8_until) := goodIn_app (goodIn_of _ (by decide +kernel)) ggX8_sightFor_X8_until
theorem dX8_sightFor_0 : decode cX8_sightFor 0 = .ok (.aload_n 0, 1) := by decide +kernel
theorem dX8_sightFor_1 : decode cX8_sightFor 1 = .ok (.iload_n 1, 1) := by decide +kernel
theorem dX8_sightFor_2 : decode cX8_sightFor 2 = .ok (.invokevirtual 154, 3) := by decide +kernel
theorem dX8_sightFor_5 : decode cX8_sightFor 5 = .ok (.ifCond .ne 9, 3) := by decide +kernel
theorem dX8_sightFor_8 : decode cX8_sightFor 8 = .ok (.aload_n 0, 1) := by decide +kernel
theorem dX8_sightFor_9 : decode cX8_sightFor 9 = .ok (.iconst 0, 1) := by decide +kernel
theorem dX8_sightFor_10 : decode cX8_sightFor 10 = .ok (.invokevirtual 93, 3) := by decide +kernel
theorem dX8_sightFor_13 : decode cX8_sightFor 13 = .ok (.ireturn, 1) := by decide +kernel
theorem dX8_sightFor_14 : decode cX8_sightFor 14 = .ok (.aload_n 0, 1) := by decide +kernel
theorem dX8_sightFor_15 : decode cX8_sightFor 15 = .ok (.getfield 9, 3) := by decide +kernel
theorem dX8_sightFor_18 : decode cX8_sightFor 18 = .ok (.iconst 2, 1) := by decide +kernel
theorem dX8_sightFor_19 : decode cX8_sightFor 19 = .ok (.iaload, 1) := by decide +kernel
theorem dX8_sightFor_20 : decode cX8_sightFor 20 = .ok (.istore_n 2, 1) := by decide +kernel
theorem dX8_sightFor_21 : decode cX8_sightFor 21 = .ok (.iconst (-1), 1) := by decide +kernel
theorem dX8_sightFor_22 : decode cX8_sightFor 22 = .ok (.istore_n 3, 1) := by decide +kernel
theorem dX8_sightFor_23 : decode cX8_sightFor 23 = .ok (.iconst 0, 1) := by decide +kernel
theorem dX8_sightFor_24 : decode cX8_sightFor 24 = .ok (.istore 4, 2) := by decide +kernel
theorem dX8_sightFor_26 : decode cX8_sightFor 26 = .ok (.iload 4, 2) := by decide +kernel
theorem dX8_sightFor_28 : decode cX8_sightFor 28 = .ok (.bipush 12, 2) := by decide +kernel
theorem dX8_sightFor_30 : decode cX8_sightFor 30 = .ok (.if_icmp .gt 36, 3) := by decide +kernel
theorem dX8_sightFor_33 : decode cX8_sightFor 33 = .ok (.aload_n 0, 1) := by decide +kernel
theorem dX8_sightFor_34 : decode cX8_sightFor 34 = .ok (.getfield 9, 3) := by decide +kernel
theorem dX8_sightFor_37 : decode cX8_sightFor 37 = .ok (.iconst 2, 1) := by decide +kernel
theorem dX8_sightFor_38 : decode cX8_sightFor 38 = .ok (.iload 4, 2) := by decide +kernel
theorem dX8_sightFor_40 : decode cX8_sightFor 40 = .ok (.iastore, 1) := by decide +kernel
theorem dX8_sightFor_41 : decode cX8_sightFor 41 = .ok (.aload_n 0, 1) := by decide +kernel
theorem dX8_sightFor_42 : decode cX8_sightFor 42 = .ok (.iload_n 1, 1) := by decide +kernel
theorem dX8_sightFor_43 : decode cX8_sightFor 43 = .ok (.iconst 1, 1) := by decide +kernel
theorem dX8_sightFor_44 : decode cX8_sightFor 44 = .ok (.iconst 0, 1) := by decide +kernel
theorem dX8_sightFor_45 : decode cX8_sightFor 45 = .ok (.invokevirtual 209, 3) := by decide +kernel
theorem dX8_sightFor_48 : decode cX8_sightFor 48 = .ok (.bipush 100, 2) := by decide +kernel
theorem dX8_sightFor_50 : decode cX8_sightFor 50 = .ok (.if_icmp .le 8, 3) := by decide +kernel
theorem dX8_sightFor_53 : decode cX8_sightFor 53 = .ok (.iload 4, 2) := by decide +kernel
theorem dX8_sightFor_55 : decode cX8_sightFor 55 = .ok (.goto 4, 3) := by decide +kernel
theorem dX8_sightFor_58 : decode cX8_sightFor 58 = .ok (.iload_n 3, 1) := by decide +kernel
theorem dX8_sightFor_59 : decode cX8_sightFor 59 = .ok (.istore_n 3, 1) := by decide +kernel
theorem dX8_sightFor_60 : decode cX8_sightFor 60 = .ok (.iinc 4 1, 3) := by decide +kernel
theorem dX8_sightFor_63 : decode cX8_sightFor 63 = .ok (.goto (-37), 3) := by decide +kernel
theorem dX8_sightFor_66 : decode cX8_sightFor 66 = .ok (.aload_n 0, 1) := by decide +kernel
theorem dX8_sightFor_67 : decode cX8_sightFor 67 = .ok (.getfield 9, 3) := by decide +kernel
theorem dX8_sightFor_70 : decode cX8_sightFor 70 = .ok (.iconst 2, 1) := by decide +kernel
theorem dX8_sightFor_71 : decode cX8_sightFor 71 = .ok (.iload_n 2, 1) := by decide +kernel
theorem dX8_sightFor_72 : decode cX8_sightFor 72 = .ok (.iastore, 1) := by decide +kernel
theorem dX8_sightFor_73 : decode cX8_sightFor 73 = .ok (.iload_n 3, 1) := by decide +kernel
theorem dX8_sightFor_74 : decode cX8_sightFor 74 = .ok (.ifCond .ge 11, 3) := by decide +kernel
theorem dX8_sightFor_77 : decode cX8_sightFor 77 = .ok (.aload_n 0, 1) := by decide +kernel
theorem dX8_sightFor_78 : decode cX8_sightFor 78 = .ok (.iconst 3, 1) := by decide +kernel
theorem dX8_sightFor_79 : decode cX8_sightFor 79 = .ok (.invokevirtual 93, 3) := by decide +kernel
theorem dX8_sightFor_82 : decode cX8_sightFor 82 = .ok (.goto 4, 3) := by decide +kernel
theorem dX8_sightFor_85 : decode cX8_sightFor 85 = .ok (.iload_n 3, 1) := by decide +kernel
theorem dX8_sightFor_86 : decode cX8_sightFor 86 = .ok (.ireturn, 1) := by decide +kernel
