set_option maxRecDepth 20000 in
theorem ggX8_findPrices_X8_steamOn : GoodIn wsX8_findPrices wsX8_steamOn := goodIn_r _ [7, 8, 9, 10, 11, 12, 2, 13, 14, 6, 15, 16, 17, 18, 31, 32, 33, 34, 35, 36, 37, 38, 39, 40, 41, 42, 43, 44, 45, 46, 47, 48, 49, 50] (by decide +kernel) (by decide +kernel)
set_option maxRecDepth 20000 in
theorem gX8_findPrices_X8_steamOn : GoodIn wsX8_findPrices (wsV RX8 216 RX8 yX8_steamOn wsX8_steamOn) := goodIn_app (goodIn_of _ (by decide +kernel)) ggX8_findPrices_X8_steamOn
set_option maxRecDepth 20000 in
theorem ggX8_findPrices_X8_isSeen : GoodIn wsX8_findPrices wsX8_isSeen := goodIn_r _ [22, 23, 24, 25, 6, 26, 8, 27, 28, 29, 30, 13, 14, 15, 16, 17, 11, 18, 31, 32, 33, 34, 35, 36, 37, 38, 39, 40, 41, 42, 43, 44, 45, 46, 47, 48, 49, 50] (by decide +kernel) (by decide +kernel)
set_option maxRecDepth 20000 in
theorem gX8_findPrices_X8_isSeen : GoodIn wsX8_findPrices (wsV RX8 126 RX8 yX8_isSeen wsX8_isSeen) := goodIn_app (goodIn_of _ (by decide +kernel)) ggX8_findPrices_X8_isSeen
theorem dX8_findPrices_0 : decode cX8_findPrices 0 = .ok (.iconst 0, 1) := by decide +kernel
theorem dX8_findPrices_1 : decode cX8_findPrices 1 = .ok (.istore_n 2, 1) := by decide +kernel
theorem dX8_findPrices_2 : decode cX8_findPrices 2 = .ok (.iload_n 2, 1) := by decide +kernel
theorem dX8_findPrices_3 : decode cX8_findPrices 3 = .ok (.bipush 48, 2) := by decide +kernel
theorem dX8_findPrices_5 : decode cX8_findPrices 5 = .ok (.if_icmp .ge 41, 3) := by decide +kernel
theorem dX8_findPrices_8 : decode cX8_findPrices 8 = .ok (.aload_n 0, 1) := by decide +kernel
theorem dX8_findPrices_9 : decode cX8_findPrices 9 = .ok (.getfield 25, 3) := by decide +kernel
theorem dX8_findPrices_12 : decode cX8_findPrices 12 = .ok (.iload_n 2, 1) := by decide +kernel
theorem dX8_findPrices_13 : decode cX8_findPrices 13 = .ok (.iload_n 1, 1) := by decide +kernel
theorem dX8_findPrices_14 : decode cX8_findPrices 14 = .ok (.ifCond .eq 11, 3) := by decide +kernel
theorem dX8_findPrices_17 : decode cX8_findPrices 17 = .ok (.aload_n 0, 1) := by decide +kernel
theorem dX8_findPrices_18 : decode cX8_findPrices 18 = .ok (.iload_n 2, 1) := by decide +kernel
theorem dX8_findPrices_19 : decode cX8_findPrices 19 = .ok (.invokevirtual 216, 3) := by decide +kernel
theorem dX8_findPrices_22 : decode cX8_findPrices 22 = .ok (.goto 17, 3) := by decide +kernel
theorem dX8_findPrices_25 : decode cX8_findPrices 25 = .ok (.aload_n 0, 1) := by decide +kernel
theorem dX8_findPrices_26 : decode cX8_findPrices 26 = .ok (.iload_n 2, 1) := by decide +kernel
theorem dX8_findPrices_27 : decode cX8_findPrices 27 = .ok (.invokevirtual 126, 3) := by decide +kernel
theorem dX8_findPrices_30 : decode cX8_findPrices 30 = .ok (.ifCond .eq 8, 3) := by decide +kernel
theorem dX8_findPrices_33 : decode cX8_findPrices 33 = .ok (.ldc 219, 2) := by decide +kernel
theorem dX8_findPrices_35 : decode cX8_findPrices 35 = .ok (.goto 4, 3) := by decide +kernel
theorem dX8_findPrices_38 : decode cX8_findPrices 38 = .ok (.iconst 1, 1) := by decide +kernel
theorem dX8_findPrices_39 : decode cX8_findPrices 39 = .ok (.iastore, 1) := by decide +kernel
theorem dX8_findPrices_40 : decode cX8_findPrices 40 = .ok (.iinc 2 1, 3) := by decide +kernel
theorem dX8_findPrices_43 : decode cX8_findPrices 43 = .ok (.goto (-41), 3) := by decide +kernel
theorem dX8_findPrices_46 : decode cX8_findPrices 46 = .ok (.return_, 1) := by decide +kernel
set_option maxRecDepth 20000 in
theorem ggX8_steamOn_X8_apart : GoodIn wsX8_steamOn wsX8_apart := goodIn_r _ [10, 11, 12, 4, 13] (by decide +kernel) (by decide +kernel)
set_option maxRecDepth 20000 in
theorem gX8_steamOn_X8_apart : GoodIn wsX8_steamOn (va_wsS RX8 70 yX8_apart wsX8_apart) := goodIn_app (goodIn_of _ (by decide +kernel)) ggX8_steamOn_X8_apart
theorem dX8_steamOn_0 : decode cX8_steamOn 0 = .ok (.iconst 0, 1) := by decide +kernel
theorem dX8_steamOn_1 : decode cX8_steamOn 1 = .ok (.istore_n 2, 1) := by decide +kernel
theorem dX8_steamOn_2 : decode cX8_steamOn 2 = .ok (.iconst 0, 1) := by decide +kernel
theorem dX8_steamOn_3 : decode cX8_steamOn 3 = .ok (.istore_n 3, 1) := by decide +kernel
theorem dX8_steamOn_4 : decode cX8_steamOn 4 = .ok (.iload_n 3, 1) := by decide +kernel
theorem dX8_steamOn_5 : decode cX8_steamOn 5 = .ok (.iconst 4, 1) := by decide +kernel
theorem dX8_steamOn_6 : decode cX8_steamOn 6 = .ok (.if_icmp .ge 58, 3) := by decide +kernel
theorem dX8_steamOn_9 : decode cX8_steamOn 9 = .ok (.aload_n 0, 1) := by decide +kernel
theorem dX8_steamOn_10 : decode cX8_steamOn 10 = .ok (.getfield 9, 3) := by decide +kernel
theorem dX8_steamOn_13 : decode cX8_steamOn 13 = .ok (.iconst 5, 1) := by decide +kernel
theorem dX8_steamOn_14 : decode cX8_steamOn 14 = .ok (.iload_n 3, 1) := by decide +kernel
theorem dX8_steamOn_15 : decode cX8_steamOn 15 = .ok (.iadd, 1) := by decide +kernel
theorem dX8_steamOn_16 : decode cX8_steamOn 16 = .ok (.iaload, 1) := by decide +kernel
theorem dX8_steamOn_17 : decode cX8_steamOn 17 = .ok (.istore 4, 2) := by decide +kernel
theorem dX8_steamOn_19 : decode cX8_steamOn 19 = .ok (.iload 4, 2) := by decide +kernel
theorem dX8_steamOn_21 : decode cX8_steamOn 21 = .ok (.ifCond .ge 7, 3) := by decide +kernel
theorem dX8_steamOn_24 : decode cX8_steamOn 24 = .ok (.iload_n 2, 1) := by decide +kernel
theorem dX8_steamOn_25 : decode cX8_steamOn 25 = .ok (.goto 32, 3) := by decide +kernel
theorem dX8_steamOn_28 : decode cX8_steamOn 28 = .ok (.iload_n 2, 1) := by decide +kernel
theorem dX8_steamOn_29 : decode cX8_steamOn 29 = .ok (.aload_n 0, 1) := by decide +kernel
theorem dX8_steamOn_30 : decode cX8_steamOn 30 = .ok (.getfield 9, 3) := by decide +kernel
theorem dX8_steamOn_33 : decode cX8_steamOn 33 = .ok (.iconst 2, 1) := by decide +kernel
theorem dX8_steamOn_34 : decode cX8_steamOn 34 = .ok (.iaload, 1) := by decide +kernel
theorem dX8_steamOn_35 : decode cX8_steamOn 35 = .ok (.iload 4, 2) := by decide +kernel
theorem dX8_steamOn_37 : decode cX8_steamOn 37 = .ok (.iload_n 1, 1) := by decide +kernel
theorem dX8_steamOn_38 : decode cX8_steamOn 38 = .ok (.invokestatic 70, 3) := by decide +kernel
theorem dX8_steamOn_41 : decode cX8_steamOn 41 = .ok (.isub, 1) := by decide +kernel
theorem dX8_steamOn_42 : decode cX8_steamOn 42 = .ok (.aload_n 0, 1) := by decide +kernel
theorem dX8_steamOn_43 : decode cX8_steamOn 43 = .ok (.getfield 9, 3) := by decide +kernel
theorem dX8_steamOn_46 : decode cX8_steamOn 46 = .ok (.bipush 9, 2) := by decide +kernel
theorem dX8_steamOn_48 : decode cX8_steamOn 48 = .ok (.iload_n 1, 1) := by decide +kernel
theorem dX8_steamOn_49 : decode cX8_steamOn 49 = .ok (.iadd, 1) := by decide +kernel
theorem dX8_steamOn_50 : decode cX8_steamOn 50 = .ok (.iaload, 1) := by decide +kernel
theorem dX8_steamOn_51 : decode cX8_steamOn 51 = .ok (.isub, 1) := by decide +kernel
theorem dX8_steamOn_52 : decode cX8_steamOn 52 = .ok (.iconst 1, 1) := by decide +kernel
theorem dX8_steamOn_53 : decode cX8_steamOn 53 = .ok (.iadd, 1) := by decide +kernel
theorem dX8_steamOn_54 : decode cX8_steamOn 54 = .ok (.invokestatic 220, 3) := by decide +kernel
theorem dX8_steamOn_57 : decode cX8_steamOn 57 = .ok (.istore_n 2, 1) := by decide +kernel
theorem dX8_steamOn_58 : decode cX8_steamOn 58 = .ok (.iinc 3 1, 3) := by decide +kernel
theorem dX8_steamOn_61 : decode cX8_steamOn 61 = .ok (.goto (-57), 3) := by decide +kernel
theorem dX8_steamOn_64 : decode cX8_steamOn 64 = .ok (.aload_n 0, 1) := by decide +kernel
theorem dX8_steamOn_65 : decode cX8_steamOn 65 = .ok (.getfield 9, 3) := by decide +kernel
theorem dX8_steamOn_68 : decode cX8_steamOn 68 = .ok (.bipush 9, 2) := by decide +kernel
theorem dX8_steamOn_70 : decode cX8_steamOn 70 = .ok (.iload_n 1, 1) := by decide +kernel
theorem dX8_steamOn_71 : decode cX8_steamOn 71 = .ok (.iadd, 1) := by decide +kernel
theorem dX8_steamOn_72 : decode cX8_steamOn 72 = .ok (.iaload, 1) := by decide +kernel
theorem dX8_steamOn_73 : decode cX8_steamOn 73 = .ok (.iload_n 2, 1) := by decide +kernel
theorem dX8_steamOn_74 : decode cX8_steamOn 74 = .ok (.iadd, 1) := by decide +kernel
theorem dX8_steamOn_75 : decode cX8_steamOn 75 = .ok (.bipush 9, 2) := by decide +kernel
theorem dX8_steamOn_77 : decode cX8_steamOn 77 = .ok (.if_icmp .le 8, 3) := by decide +kernel
theorem dX8_steamOn_80 : decode cX8_steamOn 80 = .ok (.ldc 219, 2) := by decide +kernel
theorem dX8_steamOn_82 : decode cX8_steamOn 82 = .ok (.goto 4, 3) := by decide +kernel
theorem dX8_steamOn_85 : decode cX8_steamOn 85 = .ok (.iload_n 2, 1) := by decide +kernel
theorem dX8_steamOn_86 : decode cX8_steamOn 86 = .ok (.ireturn, 1) := by decide +kernel
theorem dX8_nearest_0 : decode cX8_nearest 0 = .ok (.iconst (-1), 1) := by decide +kernel
theorem dX8_nearest_1 : decode cX8_nearest 1 = .ok (.istore_n 1, 1) := by decide +kernel
theorem dX8_nearest_2 : decode cX8_nearest 2 = .ok (.iconst 0, 1) := by decide +kernel
theorem dX8_nearest_3 : decode cX8_nearest 3 = .ok (.istore_n 2, 1) := by decide +kernel
theorem dX8_nearest_4 : decode cX8_nearest 4 = .ok (.iload_n 2, 1) := by decide +kernel
theorem dX8_nearest_5 : decode cX8_nearest 5 = .ok (.bipush 48, 2) := by decide +kernel
theorem dX8_nearest_7 : decode cX8_nearest 7 = .ok (.if_icmp .ge 54, 3) := by decide +kernel
theorem dX8_nearest_10 : decode cX8_nearest 10 = .ok (.aload_n 0, 1) := by decide +kernel
theorem dX8_nearest_11 : decode cX8_nearest 11 = .ok (.getfield 28, 3) := by decide +kernel
theorem dX8_nearest_14 : decode cX8_nearest 14 = .ok (.iload_n 2, 1) := by decide +kernel
theorem dX8_nearest_15 : decode cX8_nearest 15 = .ok (.baload, 1) := by decide +kernel
theorem dX8_nearest_16 : decode cX8_nearest 16 = .ok (.ifCond .ne 37, 3) := by decide +kernel
theorem dX8_nearest_19 : decode cX8_nearest 19 = .ok (.aload_n 0, 1) := by decide +kernel
theorem dX8_nearest_20 : decode cX8_nearest 20 = .ok (.getfield 22, 3) := by decide +kernel
theorem dX8_nearest_23 : decode cX8_nearest 23 = .ok (.iload_n 2, 1) := by decide +kernel
theorem dX8_nearest_24 : decode cX8_nearest 24 = .ok (.iaload, 1) := by decide +kernel
theorem dX8_nearest_25 : decode cX8_nearest 25 = .ok (.ldc 219, 2) := by decide +kernel
theorem dX8_nearest_27 : decode cX8_nearest 27 = .ok (.if_icmp .ge 26, 3) := by decide +kernel
theorem dX8_nearest_30 : decode cX8_nearest 30 = .ok (.iload_n 1, 1) := by decide +kernel
theorem dX8_nearest_31 : decode cX8_nearest 31 = .ok (.ifCond .lt 18, 3) := by decide +kernel
theorem dX8_nearest_34 : decode cX8_nearest 34 = .ok (.aload_n 0, 1) := by decide +kernel
theorem dX8_nearest_35 : decode cX8_nearest 35 = .ok (.getfield 22, 3) := by decide +kernel
theorem dX8_nearest_38 : decode cX8_nearest 38 = .ok (.iload_n 2, 1) := by decide +kernel
theorem dX8_nearest_39 : decode cX8_nearest 39 = .ok (.iaload, 1) := by decide +kernel
theorem dX8_nearest_40 : decode cX8_nearest 40 = .ok (.aload_n 0, 1) := by decide +kernel
theorem dX8_nearest_41 : decode cX8_nearest 41 = .ok (.getfield 22, 3) := by decide +kernel
theorem dX8_nearest_44 : decode cX8_nearest 44 = .ok (.iload_n 1, 1) := by decide +kernel
theorem dX8_nearest_45 : decode cX8_nearest 45 = .ok (.iaload, 1) := by decide +kernel
theorem dX8_nearest_46 : decode cX8_nearest 46 = .ok (.if_icmp .ge 7, 3) := by decide +kernel
theorem dX8_nearest_49 : decode cX8_nearest 49 = .ok (.iload_n 2, 1) := by decide +kernel
theorem dX8_nearest_50 : decode cX8_nearest 50 = .ok (.goto 4, 3) := by decide +kernel
theorem dX8_nearest_53 : decode cX8_nearest 53 = .ok (.iload_n 1, 1) := by decide +kernel
theorem dX8_nearest_54 : decode cX8_nearest 54 = .ok (.istore_n 1, 1) := by decide +kernel
theorem dX8_nearest_55 : decode cX8_nearest 55 = .ok (.iinc 2 1, 3) := by decide +kernel
theorem dX8_nearest_58 : decode cX8_nearest 58 = .ok (.goto (-54), 3) := by decide +kernel
theorem dX8_nearest_61 : decode cX8_nearest 61 = .ok (.iload_n 1, 1) := by decide +kernel
theorem dX8_nearest_62 : decode cX8_nearest 62 = .ok (.ireturn, 1) := by decide +kernel
set_option maxRecDepth 20000 in
theorem ggX8_findFar_X8_nearest : GoodIn wsX8_findFar wsX8_nearest := goodIn_r _ [13, 4, 1, 3, 22, 23, 24, 25, 26, 27, 28, 29, 30, 31, 32, 33, 34, 35, 36, 37, 38, 39, 40, 41] (by decide +kernel) (by decide +kernel)
set_option maxRecDepth 20000 in
theorem gX8_findFar_X8_nearest : GoodIn wsX8_findFar (wsV RX8 223 RX8 yX8_nearest wsX8_nearest) := goodIn_app (goodIn_of _ (by decide +kernel)) ggX8_findFar_X8_nearest
set_option maxRecDepth 20000 in
theorem ggX8_findFar_X8_beside : GoodIn wsX8_findFar wsX8_beside := goodIn_r _ [16, 17, 18, 19, 20, 12, 21] (by decide +kernel) (by decide +kernel)
set_option maxRecDepth 20000 in
theorem gX8_findFar_X8_beside : GoodIn wsX8_findFar (va_wsS RX8 117 yX8_beside wsX8_beside) := goodIn_app (goodIn_of _ (by decide +kernel)) ggX8_findFar_X8_beside
theorem dX8_findFar_0 : decode cX8_findFar 0 = .ok (.iconst 0, 1) := by decide +kernel
theorem dX8_findFar_1 : decode cX8_findFar 1 = .ok (.istore_n 2, 1) := by decide +kernel
theorem dX8_findFar_2 : decode cX8_findFar 2 = .ok (.iload_n 2, 1) := by decide +kernel
theorem dX8_findFar_3 : decode cX8_findFar 3 = .ok (.bipush 48, 2) := by decide +kernel
theorem dX8_findFar_5 : decode cX8_findFar 5 = .ok (.if_icmp .ge 50, 3) := by decide +kernel
theorem dX8_findFar_8 : decode cX8_findFar 8 = .ok (.aload_n 0, 1) := by decide +kernel
theorem dX8_findFar_9 : decode cX8_findFar 9 = .ok (.getfield 22, 3) := by decide +kernel
theorem dX8_findFar_12 : decode cX8_findFar 12 = .ok (.iload_n 2, 1) := by decide +kernel
theorem dX8_findFar_13 : decode cX8_findFar 13 = .ok (.iload_n 2, 1) := by decide +kernel
theorem dX8_findFar_14 : decode cX8_findFar 14 = .ok (.bipush 8, 2) := by decide +kernel
theorem dX8_findFar_16 : decode cX8_findFar 16 = .ok (.irem, 1) := by decide +kernel
theorem dX8_findFar_17 : decode cX8_findFar 17 = .ok (.iload_n 1, 1) := by decide +kernel
theorem dX8_findFar_18 : decode cX8_findFar 18 = .ok (.ifCond .ne 7, 3) := by decide +kernel
theorem dX8_findFar_21 : decode cX8_findFar 21 = .ok (.iconst 0, 1) := by decide +kernel
theorem dX8_findFar_22 : decode cX8_findFar 22 = .ok (.goto 5, 3) := by decide +kernel
theorem dX8_findFar_25 : decode cX8_findFar 25 = .ok (.bipush 7, 2) := by decide +kernel
theorem dX8_findFar_27 : decode cX8_findFar 27 = .ok (.if_icmp .ne 12, 3) := by decide +kernel
theorem dX8_findFar_30 : decode cX8_findFar 30 = .ok (.aload_n 0, 1) := by decide +kernel
theorem dX8_findFar_31 : decode cX8_findFar 31 = .ok (.getfield 25, 3) := by decide +kernel
theorem dX8_findFar_34 : decode cX8_findFar 34 = .ok (.iload_n 2, 1) := by decide +kernel
theorem dX8_findFar_35 : decode cX8_findFar 35 = .ok (.iaload, 1) := by decide +kernel
theorem dX8_findFar_36 : decode cX8_findFar 36 = .ok (.goto 5, 3) := by decide +kernel
theorem dX8_findFar_39 : decode cX8_findFar 39 = .ok (.ldc 219, 2) := by decide +kernel
theorem dX8_findFar_41 : decode cX8_findFar 41 = .ok (.iastore, 1) := by decide +kernel
theorem dX8_findFar_42 : decode cX8_findFar 42 = .ok (.aload_n 0, 1) := by decide +kernel
theorem dX8_findFar_43 : decode cX8_findFar 43 = .ok (.getfield 28, 3) := by decide +kernel
theorem dX8_findFar_46 : decode cX8_findFar 46 = .ok (.iload_n 2, 1) := by decide +kernel
theorem dX8_findFar_47 : decode cX8_findFar 47 = .ok (.iconst 0, 1) := by decide +kernel
theorem dX8_findFar_48 : decode cX8_findFar 48 = .ok (.bastore, 1) := by decide +kernel
theorem dX8_findFar_49 : decode cX8_findFar 49 = .ok (.iinc 2 1, 3) := by decide +kernel
theorem dX8_findFar_52 : decode cX8_findFar 52 = .ok (.goto (-50), 3) := by decide +kernel
theorem dX8_findFar_55 : decode cX8_findFar 55 = .ok (.aload_n 0, 1) := by decide +kernel
theorem dX8_findFar_56 : decode cX8_findFar 56 = .ok (.invokevirtual 223, 3) := by decide +kernel
theorem dX8_findFar_59 : decode cX8_findFar 59 = .ok (.istore_n 2, 1) := by decide +kernel
theorem dX8_findFar_60 : decode cX8_findFar 60 = .ok (.iload_n 2, 1) := by decide +kernel
theorem dX8_findFar_61 : decode cX8_findFar 61 = .ok (.ifCond .lt 86, 3) := by decide +kernel
theorem dX8_findFar_64 : decode cX8_findFar 64 = .ok (.aload_n 0, 1) := by decide +kernel
theorem dX8_findFar_65 : decode cX8_findFar 65 = .ok (.getfield 28, 3) := by decide +kernel
theorem dX8_findFar_68 : decode cX8_findFar 68 = .ok (.iload_n 2, 1) := by decide +kernel
theorem dX8_findFar_69 : decode cX8_findFar 69 = .ok (.iconst 1, 1) := by decide +kernel
theorem dX8_findFar_70 : decode cX8_findFar 70 = .ok (.bastore, 1) := by decide +kernel
theorem dX8_findFar_71 : decode cX8_findFar 71 = .ok (.iconst 1, 1) := by decide +kernel
theorem dX8_findFar_72 : decode cX8_findFar 72 = .ok (.istore_n 3, 1) := by decide +kernel
theorem dX8_findFar_73 : decode cX8_findFar 73 = .ok (.iload_n 3, 1) := by decide +kernel
theorem dX8_findFar_74 : decode cX8_findFar 74 = .ok (.iconst 4, 1) := by decide +kernel
theorem dX8_findFar_75 : decode cX8_findFar 75 = .ok (.if_icmp .gt 64, 3) := by decide +kernel
theorem dX8_findFar_78 : decode cX8_findFar 78 = .ok (.iload_n 2, 1) := by decide +kernel
theorem dX8_findFar_79 : decode cX8_findFar 79 = .ok (.iload_n 3, 1) := by decide +kernel
theorem dX8_findFar_80 : decode cX8_findFar 80 = .ok (.invokestatic 117, 3) := by decide +kernel
theorem dX8_findFar_83 : decode cX8_findFar 83 = .ok (.istore 4, 2) := by decide +kernel
theorem dX8_findFar_85 : decode cX8_findFar 85 = .ok (.iload 4, 2) := by decide +kernel
theorem dX8_findFar_87 : decode cX8_findFar 87 = .ok (.ifCond .lt 46, 3) := by decide +kernel
theorem dX8_findFar_90 : decode cX8_findFar 90 = .ok (.aload_n 0, 1) := by decide +kernel
theorem dX8_findFar_91 : decode cX8_findFar 91 = .ok (.getfield 25, 3) := by decide +kernel
theorem dX8_findFar_94 : decode cX8_findFar 94 = .ok (.iload 4, 2) := by decide +kernel
theorem dX8_findFar_96 : decode cX8_findFar 96 = .ok (.iaload, 1) := by decide +kernel
theorem dX8_findFar_97 : decode cX8_findFar 97 = .ok (.ldc 219, 2) := by decide +kernel
theorem dX8_findFar_99 : decode cX8_findFar 99 = .ok (.if_icmp .ge 34, 3) := by decide +kernel
theorem dX8_findFar_102 : decode cX8_findFar 102 = .ok (.aload_n 0, 1) := by decide +kernel
theorem dX8_findFar_103 : decode cX8_findFar 103 = .ok (.getfield 22, 3) := by decide +kernel
theorem dX8_findFar_106 : decode cX8_findFar 106 = .ok (.iload 4, 2) := by decide +kernel
theorem dX8_findFar_108 : decode cX8_findFar 108 = .ok (.aload_n 0, 1) := by decide +kernel
theorem dX8_findFar_109 : decode cX8_findFar 109 = .ok (.getfield 22, 3) := by decide +kernel
theorem dX8_findFar_112 : decode cX8_findFar 112 = .ok (.iload 4, 2) := by decide +kernel
theorem dX8_findFar_114 : decode cX8_findFar 114 = .ok (.iaload, 1) := by decide +kernel
theorem dX8_findFar_115 : decode cX8_findFar 115 = .ok (.aload_n 0, 1) := by decide +kernel
theorem dX8_findFar_116 : decode cX8_findFar 116 = .ok (.getfield 22, 3) := by decide +kernel
theorem dX8_findFar_119 : decode cX8_findFar 119 = .ok (.iload_n 2, 1) := by decide +kernel
theorem dX8_findFar_120 : decode cX8_findFar 120 = .ok (.iaload, 1) := by decide +kernel
theorem dX8_findFar_121 : decode cX8_findFar 121 = .ok (.aload_n 0, 1) := by decide +kernel
theorem dX8_findFar_122 : decode cX8_findFar 122 = .ok (.getfield 25, 3) := by decide +kernel
theorem dX8_findFar_125 : decode cX8_findFar 125 = .ok (.iload 4, 2) := by decide +kernel
theorem dX8_findFar_127 : decode cX8_findFar 127 = .ok (.iaload, 1) := by decide +kernel
theorem dX8_findFar_128 : decode cX8_findFar 128 = .ok (.iadd, 1) := by decide +kernel
theorem dX8_findFar_129 : decode cX8_findFar 129 = .ok (.invokestatic 171, 3) := by decide +kernel
theorem dX8_findFar_132 : decode cX8_findFar 132 = .ok (.iastore, 1) := by decide +kernel
theorem dX8_findFar_133 : decode cX8_findFar 133 = .ok (.iinc 3 1, 3) := by decide +kernel
theorem dX8_findFar_136 : decode cX8_findFar 136 = .ok (.goto (-63), 3) := by decide +kernel
theorem dX8_findFar_139 : decode cX8_findFar 139 = .ok (.aload_n 0, 1) := by decide +kernel
theorem dX8_findFar_140 : decode cX8_findFar 140 = .ok (.invokevirtual 223, 3) := by decide +kernel
theorem dX8_findFar_143 : decode cX8_findFar 143 = .ok (.istore_n 2, 1) := by decide +kernel
theorem dX8_findFar_144 : decode cX8_findFar 144 = .ok (.goto (-84), 3) := by decide +kernel
theorem dX8_findFar_147 : decode cX8_findFar 147 = .ok (.return_, 1) := by decide +kernel
set_option maxRecDepth 20000 in
theorem ggX8_way_X8_isCell : GoodIn wsX8_way wsX8_isCell := goodIn_r _ [6, 7, 8, 9, 5, 10] (by decide +kernel) (by decide +kernel)
set_option maxRecDepth 20000 in
theorem gX8_way_X8_isCell : GoodIn wsX8_way (va_wsS RX8 85 yX8_isCell wsX8_isCell) := goodIn_app (goodIn_of _ (by decide +kernel)) ggX8_way_X8_isCell
set_option maxRecDepth 20000 in
theorem ggX8_way_X8_isSide : GoodIn wsX8_way wsX8_isSide := goodIn_r _ [13, 8, 9, 5, 10] (by decide +kernel) (by decide +kernel)
set_option maxRecDepth 20000 in
theorem gX8_way_X8_isSide : GoodIn wsX8_way (va_wsS RX8 163 yX8_isSide wsX8_isSide) := goodIn_app (goodIn_of _ (by decide +kernel)) ggX8_way_X8_isSide
set_option maxRecDepth 20000 in
theorem ggX8_way_X8_finds : GoodIn wsX8_way wsX8_finds := goodIn_r _ [17, 18, 19, 69, 70, 71, 72, 73, 74, 75, 76, 77, 78, 79, 80, 81, 82, 83, 84, 85, 86, 87, 88] (by decide +kernel) (by decide +kernel)
set_option maxRecDepth 20000 in
theorem gX8_way_X8_finds : GoodIn wsX8_way (wsV RX8 93 RX8 yX8_finds wsX8_finds) := goodIn_app (goodIn_of _ (by decide +kernel)) ggX8_way_X8_finds
set_option maxRecDepth 20000 in
theorem ggX8_way_X8_findPrices : GoodIn wsX8_way wsX8_findPrices := goodIn_r _ [23, 24, 2, 25, 26, 27, 5, 28, 29, 30, 31, 32, 33, 34, 35, 36, 37, 38, 39, 40, 41, 42, 43, 44, 45, 46, 47, 48, 49, 50, 51, 69, 70, 71, 72, 73, 74, 75, 76, 77, 78, 79, 80, 81, 82, 83, 84, 85, 86, 87, 88] (by decide +kernel) (by decide +kernel)
set_option maxRecDepth 20000 in
theorem gX8_way_X8_findPrices : GoodIn wsX8_way (wsV RX8 226 RX8 yX8_findPrices wsX8_findPrices) := goodIn_app (goodIn_of _ (by decide +kernel)) ggX8_way_X8_findPrices
set_option maxRecDepth 20000 in
theorem ggX8_way_X8_findFar : GoodIn wsX8_way wsX8_findFar := goodIn_r _ [55, 1, 24, 2, 56, 57, 58, 32, 59, 60, 61, 62, 5, 63, 64, 65, 66, 67, 68, 8, 9, 10, 69, 70, 71, 72, 73, 74, 75, 76, 77, 78, 79, 80, 81, 82, 83, 84, 85, 86, 87, 88] (by decide +kernel) (by decide +kernel)
set_option maxRecDepth 20000 in
theorem gX8_way_X8_findFar : GoodIn wsX8_way (wsV RX8 230 RX8 yX8_findFar wsX8_findFar) := goodIn_app (goodIn_of _ (by decide +kernel)) ggX8_way_X8_findFar
theorem dX8_way_0 : decode cX8_way 0 = .ok (.iload_n 1, 1) := by decide +kernel
theorem dX8_way_1 : decode cX8_way 1 = .ok (.invokestatic 85, 3) := by decide +kernel
theorem dX8_way_4 : decode cX8_way 4 = .ok (.ifCond .eq 10, 3) := by decide +kernel
theorem dX8_way_7 : decode cX8_way 7 = .ok (.iload_n 2, 1) := by decide +kernel
theorem dX8_way_8 : decode cX8_way 8 = .ok (.invokestatic 163, 3) := by decide +kernel
theorem dX8_way_11 : decode cX8_way 11 = .ok (.ifCond .ne 9, 3) := by decide +kernel
theorem dX8_way_14 : decode cX8_way 14 = .ok (.aload_n 0, 1) := by decide +kernel
theorem dX8_way_15 : decode cX8_way 15 = .ok (.iconst 0, 1) := by decide +kernel
theorem dX8_way_16 : decode cX8_way 16 = .ok (.invokevirtual 93, 3) := by decide +kernel
theorem dX8_way_19 : decode cX8_way 19 = .ok (.ireturn, 1) := by decide +kernel
theorem dX8_way_20 : decode cX8_way 20 = .ok (.aload_n 0, 1) := by decide +kernel
theorem dX8_way_21 : decode cX8_way 21 = .ok (.iconst 0, 1) := by decide +kernel
theorem dX8_way_22 : decode cX8_way 22 = .ok (.invokevirtual 226, 3) := by decide +kernel
theorem dX8_way_25 : decode cX8_way 25 = .ok (.aload_n 0, 1) := by decide +kernel
theorem dX8_way_26 : decode cX8_way 26 = .ok (.iload_n 2, 1) := by decide +kernel
theorem dX8_way_27 : decode cX8_way 27 = .ok (.invokevirtual 230, 3) := by decide +kernel
theorem dX8_way_30 : decode cX8_way 30 = .ok (.aload_n 0, 1) := by decide +kernel
theorem dX8_way_31 : decode cX8_way 31 = .ok (.getfield 22, 3) := by decide +kernel
theorem dX8_way_34 : decode cX8_way 34 = .ok (.iload_n 1, 1) := by decide +kernel
theorem dX8_way_35 : decode cX8_way 35 = .ok (.iaload, 1) := by decide +kernel
theorem dX8_way_36 : decode cX8_way 36 = .ok (.ldc 219, 2) := by decide +kernel
theorem dX8_way_38 : decode cX8_way 38 = .ok (.if_icmp .ge 14, 3) := by decide +kernel
theorem dX8_way_41 : decode cX8_way 41 = .ok (.aload_n 0, 1) := by decide +kernel
theorem dX8_way_42 : decode cX8_way 42 = .ok (.getfield 22, 3) := by decide +kernel
theorem dX8_way_45 : decode cX8_way 45 = .ok (.iload_n 1, 1) := by decide +kernel
theorem dX8_way_46 : decode cX8_way 46 = .ok (.iaload, 1) := by decide +kernel
theorem dX8_way_47 : decode cX8_way 47 = .ok (.iconst 1, 1) := by decide +kernel
theorem dX8_way_48 : decode cX8_way 48 = .ok (.isub, 1) := by decide +kernel
theorem dX8_way_49 : decode cX8_way 49 = .ok (.goto 8, 3) := by decide +kernel
theorem dX8_way_52 : decode cX8_way 52 = .ok (.aload_n 0, 1) := by decide +kernel
theorem dX8_way_53 : decode cX8_way 53 = .ok (.iconst 3, 1) := by decide +kernel
theorem dX8_way_54 : decode cX8_way 54 = .ok (.invokevirtual 93, 3) := by decide +kernel
theorem dX8_way_57 : decode cX8_way 57 = .ok (.ireturn, 1) := by decide +kernel
set_option maxRecDepth 20000 in
theorem ggX8_next_X8_isCell : GoodIn wsX8_next wsX8_isCell := goodIn_r _ [10, 11, 12, 13, 9, 14] (by decide +kernel) (by decide +kernel)
set_option maxRecDepth 20000 in
theorem gX8_next_X8_isCell : GoodIn wsX8_next (va_wsS RX8 85 yX8_isCell wsX8_isCell) := goodIn_app (goodIn_of _ (by decide +kernel)) ggX8_next_X8_isCell
set_option maxRecDepth 20000 in
theorem ggX8_next_X8_isSide : GoodIn wsX8_next wsX8_isSide := goodIn_r _ [17, 12, 13, 9, 14] (by decide +kernel) (by decide +kernel)
set_option maxRecDepth 20000 in
theorem gX8_next_X8_isSide : GoodIn wsX8_next (va_wsS RX8 163 yX8_isSide wsX8_isSide) := goodIn_app (goodIn_of _ (by decide +kernel)) ggX8_next_X8_isSide
set_option maxRecDepth 20000 in
theorem ggX8_next_X8_finds : GoodIn wsX8_next wsX8_finds := goodIn_r _ [21, 22, 23, 69, 70, 71, 72, 73, 74, 75, 76, 77, 78, 79, 80, 81, 82, 83, 84, 85, 86, 87, 88] (by decide +kernel) (by decide +kernel)
set_option maxRecDepth 20000 in
theorem gX8_next_X8_finds : GoodIn wsX8_next (wsV RX8 93 RX8 yX8_finds wsX8_finds) := goodIn_app (goodIn_of _ (by decide +kernel)) ggX8_next_X8_finds
set_option maxRecDepth 20000 in
theorem ggX8_next_X8_findPrices : GoodIn wsX8_next wsX8_findPrices := goodIn_r _ [27, 28, 2, 29, 30, 31, 9, 32, 33, 34, 35, 5, 36, 37, 38, 39, 40, 41, 42, 43, 44, 45, 46, 47, 48, 49, 50, 51, 52, 53, 54, 69, 70, 71, 72, 73, 74, 75, 76, 77, 78, 79, 80, 81, 82, 83, 84, 85, 86, 87, 88] (by decide +kernel) (by decide +kernel)
set_option maxRecDepth 20000 in
theorem gX8_next_X8_findPrices : GoodIn wsX8_next (wsV RX8 226 RX8 yX8_findPrices wsX8_findPrices) := goodIn_app (goodIn_of _ (by decide +kernel)) ggX8_next_X8_findPrices
set_option maxRecDepth 20000 in
theorem ggX8_next_X8_findFar : GoodIn wsX8_next wsX8_findFar := goodIn_r _ [58, 1, 28, 2, 59, 3, 4, 5, 6, 60, 61, 62, 9, 63, 64, 65, 66, 67, 68, 12, 13, 14, 69, 70, 71, 72, 73, 74, 75, 76, 77, 78, 79, 80, 81, 82, 83, 84, 85, 86, 87, 88] (by decide +kernel) (by decide +kernel)
set_option maxRecDepth 20000 in
theorem gX8_next_X8_findFar : GoodIn wsX8_next (wsV RX8 230 RX8 yX8_findFar wsX8_findFar) := goodIn_app (goodIn_of _ (by decide +kernel)) ggX8_next_X8_findFar
set_option maxRecDepth 20000 in
theorem ggX8_next_X8_beside : GoodIn wsX8_next wsX8_beside := goodIn_r _ [66, 67, 68, 12, 13, 9, 14] (by decide +kernel) (by decide +kernel)
set_option maxRecDepth 20000 in
theorem gX8_next_X8_beside : GoodIn wsX8_next (va_wsS RX8 117 yX8_beside wsX8_beside) := goodIn_app (goodIn_of _ (by decide +kernel)) ggX8_next_X8_beside
theorem dX8_next_0 : decode cX8_next 0 = .ok (.iload_n 1, 1) := by decide +kernel
theorem dX8_next_1 : decode cX8_next 1 = .ok (.invokestatic 85, 3) := by decide +kernel
theorem dX8_next_4 : decode cX8_next 4 = .ok (.ifCond .eq 10, 3) := by decide +kernel
theorem dX8_next_7 : decode cX8_next 7 = .ok (.iload_n 2, 1) := by decide +kernel
theorem dX8_next_8 : decode cX8_next 8 = .ok (.invokestatic 163, 3) := by decide +kernel
theorem dX8_next_11 : decode cX8_next 11 = .ok (.ifCond .ne 9, 3) := by decide +kernel
theorem dX8_next_14 : decode cX8_next 14 = .ok (.aload_n 0, 1) := by decide +kernel
theorem dX8_next_15 : decode cX8_next 15 = .ok (.iconst 0, 1) := by decide +kernel
theorem dX8_next_16 : decode cX8_next 16 = .ok (.invokevirtual 93, 3) := by decide +kernel
theorem dX8_next_19 : decode cX8_next 19 = .ok (.ireturn, 1) := by decide +kernel
theorem dX8_next_20 : decode cX8_next 20 = .ok (.aload_n 0, 1) := by decide +kernel
theorem dX8_next_21 : decode cX8_next 21 = .ok (.iconst 0, 1) := by decide +kernel
theorem dX8_next_22 : decode cX8_next 22 = .ok (.invokevirtual 226, 3) := by decide +kernel
theorem dX8_next_25 : decode cX8_next 25 = .ok (.aload_n 0, 1) := by decide +kernel
theorem dX8_next_26 : decode cX8_next 26 = .ok (.iload_n 2, 1) := by decide +kernel
theorem dX8_next_27 : decode cX8_next 27 = .ok (.invokevirtual 230, 3) := by decide +kernel
theorem dX8_next_30 : decode cX8_next 30 = .ok (.aload_n 0, 1) := by decide +kernel
theorem dX8_next_31 : decode cX8_next 31 = .ok (.getfield 22, 3) := by decide +kernel
theorem dX8_next_34 : decode cX8_next 34 = .ok (.iload_n 1, 1) := by decide +kernel
theorem dX8_next_35 : decode cX8_next 35 = .ok (.iaload, 1) := by decide +kernel
theorem dX8_next_36 : decode cX8_next 36 = .ok (.ldc 219, 2) := by decide +kernel
theorem dX8_next_38 : decode cX8_next 38 = .ok (.if_icmp .lt 9, 3) := by decide +kernel
theorem dX8_next_41 : decode cX8_next 41 = .ok (.aload_n 0, 1) := by decide +kernel
theorem dX8_next_42 : decode cX8_next 42 = .ok (.iconst 3, 1) := by decide +kernel
theorem dX8_next_43 : decode cX8_next 43 = .ok (.invokevirtual 93, 3) := by decide +kernel
theorem dX8_next_46 : decode cX8_next 46 = .ok (.ireturn, 1) := by decide +kernel
theorem dX8_next_47 : decode cX8_next 47 = .ok (.aload_n 0, 1) := by decide +kernel
theorem dX8_next_48 : decode cX8_next 48 = .ok (.getfield 22, 3) := by decide +kernel
theorem dX8_next_51 : decode cX8_next 51 = .ok (.iload_n 1, 1) := by decide +kernel
theorem dX8_next_52 : decode cX8_next 52 = .ok (.iaload, 1) := by decide +kernel
theorem dX8_next_53 : decode cX8_next 53 = .ok (.iconst 1, 1) := by decide +kernel
theorem dX8_next_54 : decode cX8_next 54 = .ok (.if_icmp .ne 7, 3) := by decide +kernel
theorem dX8_next_57 : decode cX8_next 57 = .ok (.iload_n 1, 1) := by decide +kernel
theorem dX8_next_58 : decode cX8_next 58 = .ok (.goto 5, 3) := by decide +kernel
theorem dX8_next_61 : decode cX8_next 61 = .ok (.bipush 48, 2) := by decide +kernel
theorem dX8_next_63 : decode cX8_next 63 = .ok (.istore_n 3, 1) := by decide +kernel
theorem dX8_next_64 : decode cX8_next 64 = .ok (.iconst 1, 1) := by decide +kernel
theorem dX8_next_65 : decode cX8_next 65 = .ok (.istore 4, 2) := by decide +kernel
theorem dX8_next_67 : decode cX8_next 67 = .ok (.iload 4, 2) := by decide +kernel
theorem dX8_next_69 : decode cX8_next 69 = .ok (.iconst 4, 1) := by decide +kernel
theorem dX8_next_70 : decode cX8_next 70 = .ok (.if_icmp .gt 51, 3) := by decide +kernel
theorem dX8_next_73 : decode cX8_next 73 = .ok (.iload_n 1, 1) := by decide +kernel
theorem dX8_next_74 : decode cX8_next 74 = .ok (.iload 4, 2) := by decide +kernel
theorem dX8_next_76 : decode cX8_next 76 = .ok (.invokestatic 117, 3) := by decide +kernel
theorem dX8_next_79 : decode cX8_next 79 = .ok (.istore 5, 2) := by decide +kernel
theorem dX8_next_81 : decode cX8_next 81 = .ok (.iload 5, 2) := by decide +kernel
theorem dX8_next_83 : decode cX8_next 83 = .ok (.ifCond .lt 30, 3) := by decide +kernel
theorem dX8_next_86 : decode cX8_next 86 = .ok (.aload_n 0, 1) := by decide +kernel
theorem dX8_next_87 : decode cX8_next 87 = .ok (.getfield 22, 3) := by decide +kernel
theorem dX8_next_90 : decode cX8_next 90 = .ok (.iload 5, 2) := by decide +kernel
theorem dX8_next_92 : decode cX8_next 92 = .ok (.iaload, 1) := by decide +kernel
theorem dX8_next_93 : decode cX8_next 93 = .ok (.aload_n 0, 1) := by decide +kernel
theorem dX8_next_94 : decode cX8_next 94 = .ok (.getfield 22, 3) := by decide +kernel
theorem dX8_next_97 : decode cX8_next 97 = .ok (.iload_n 1, 1) := by decide +kernel
theorem dX8_next_98 : decode cX8_next 98 = .ok (.iaload, 1) := by decide +kernel
theorem dX8_next_99 : decode cX8_next 99 = .ok (.iconst 1, 1) := by decide +kernel
theorem dX8_next_100 : decode cX8_next 100 = .ok (.isub, 1) := by decide +kernel
theorem dX8_next_101 : decode cX8_next 101 = .ok (.if_icmp .ne 12, 3) := by decide +kernel
theorem dX8_next_104 : decode cX8_next 104 = .ok (.iload_n 3, 1) := by decide +kernel
theorem dX8_next_105 : decode cX8_next 105 = .ok (.iload 5, 2) := by decide +kernel
theorem dX8_next_107 : decode cX8_next 107 = .ok (.invokestatic 171, 3) := by decide +kernel
theorem dX8_next_110 : decode cX8_next 110 = .ok (.goto 4, 3) := by decide +kernel
theorem dX8_next_113 : decode cX8_next 113 = .ok (.iload_n 3, 1) := by decide +kernel
theorem dX8_next_114 : decode cX8_next 114 = .ok (.istore_n 3, 1) := by decide +kernel
theorem dX8_next_115 : decode cX8_next 115 = .ok (.iinc 4 1, 3) := by decide +kernel
theorem dX8_next_118 : decode cX8_next 118 = .ok (.goto (-51), 3) := by decide +kernel
theorem dX8_next_121 : decode cX8_next 121 = .ok (.iload_n 3, 1) := by decide +kernel
theorem dX8_next_122 : decode cX8_next 122 = .ok (.ireturn, 1) := by decide +kernel
set_option maxRecDepth 20000 in
theorem ggX8_steamFor_X8_isCell : GoodIn wsX8_steamFor wsX8_isCell := goodIn_r _ [6, 7, 8, 9, 5, 10] (by decide +kernel) (by decide +kernel)
set_option maxRecDepth 20000 in
theorem gX8_steamFor_X8_isCell : GoodIn wsX8_steamFor (va_wsS RX8 85 yX8_isCell wsX8_isCell) := goodIn_app (goodIn_of _ (by decide +kernel)) ggX8_steamFor_X8_isCell
set_option maxRecDepth 20000 in
theorem ggX8_steamFor_X8_isSide : GoodIn wsX8_steamFor wsX8_isSide := goodIn_r _ [13, 8, 9, 5, 10] (by decide +kernel) (by decide +kernel)
set_option maxRecDepth 20000 in
theorem gX8_steamFor_X8_isSide : GoodIn wsX8_steamFor (va_wsS RX8 163 yX8_isSide wsX8_isSide) := goodIn_app (goodIn_of _ (by decide +kernel)) ggX8_steamFor_X8_isSide
set_option maxRecDepth 20000 in
theorem ggX8_steamFor_X8_finds : GoodIn wsX8_steamFor wsX8_finds := goodIn_r _ [17, 18, 19, 69, 70, 71, 72, 73, 74, 75, 76, 77, 78, 79, 80, 81, 82, 83, 84, 85, 86, 87, 88] (by decide +kernel) (by decide +kernel)
set_option maxRecDepth 20000 in
theorem gX8_steamFor_X8_finds : GoodIn wsX8_steamFor (wsV RX8 93 RX8 yX8_finds wsX8_finds) := goodIn_app (goodIn_of _ (by decide +kernel)) ggX8_steamFor_X8_finds
set_option maxRecDepth 20000 in
theorem ggX8_steamFor_X8_findPrices : GoodIn wsX8_steamFor wsX8_findPrices := goodIn_r _ [23, 24, 2, 25, 26, 27, 5, 28, 29, 30, 31, 32, 33, 34, 35, 36, 37, 38, 39, 40, 41, 42, 43, 44, 45, 46, 47, 48, 49, 50, 51, 69, 70, 71, 72, 73, 74, 75, 76, 77, 78, 79, 80, 81, 82, 83, 84, 85, 86, 87, 88] (by decide +kernel) (by decide +kernel)
set_option maxRecDepth 20000 in
theorem gX8_steamFor_X8_findPrices : GoodIn wsX8_steamFor (wsV RX8 226 RX8 yX8_findPrices wsX8_findPrices) := goodIn_app (goodIn_of _ (by decide +kernel)) ggX8_steamFor_X8_findPrices
set_option maxRecDepth 20000 in
theorem ggX8_steamFor_X8_findFar : GoodIn wsX8_steamFor wsX8_findFar := goodIn_r _ [55, 1, 24, 2, 56, 57, 58, 32, 59, 60, 61, 62, 5, 63, 64, 65, 66, 67, 68, 8, 9, 10, 69, 70, 71, 72, 73, 74, 75, 76, 77, 78, 79, 80, 81, 82, 83, 84, 85, 86, 87, 88] (by decide +kernel) (by decide +kernel)
set_option maxRecDepth 20000 in
theorem gX8_steamFor_X8_findFar : GoodIn wsX8_steamFor (wsV RX8 230 RX8 yX8_findFar wsX8_findFar) := goodIn_app (goodIn_of _ (by decide +kernel)) ggX8_steamFor_X8_findFar
theorem dX8_steamFor_0 : decode cX8_steamFor 0 = .ok (.iload_n 1, 1) := by decide +kernel
theorem dX8_steamFor_1 : decode cX8_steamFor 1 = .ok (.invokestatic 85, 3) := by decide +kernel
theorem dX8_steamFor_4 : decode cX8_steamFor 4 = .ok (.ifCond .eq 10, 3) := by decide +kernel
theorem dX8_steamFor_7 : decode cX8_steamFor 7 = .ok (.iload_n 2, 1) := by decide +kernel
theorem dX8_steamFor_8 : decode cX8_steamFor 8 = .ok (.invokestatic 163, 3) := by decide +kernel
theorem dX8_steamFor_11 : decode cX8_steamFor 11 = .ok (.ifCond .ne 9, 3) := by decide +kernel
theorem dX8_steamFor_14 : decode cX8_steamFor 14 = .ok (.aload_n 0, 1) := by decide +kernel
theorem dX8_steamFor_15 : decode cX8_steamFor 15 = .ok (.iconst 0, 1) := by decide +kernel
theorem dX8_steamFor_16 : decode cX8_steamFor 16 = .ok (.invokevirtual 93, 3) := by decide +kernel
theorem dX8_steamFor_19 : decode cX8_steamFor 19 = .ok (.ireturn, 1) := by decide +kernel
theorem dX8_steamFor_20 : decode cX8_steamFor 20 = .ok (.aload_n 0, 1) := by decide +kernel
theorem dX8_steamFor_21 : decode cX8_steamFor 21 = .ok (.iconst 1, 1) := by decide +kernel
theorem dX8_steamFor_22 : decode cX8_steamFor 22 = .ok (.invokevirtual 226, 3) := by decide +kernel
theorem dX8_steamFor_25 : decode cX8_steamFor 25 = .ok (.aload_n 0, 1) := by decide +kernel
theorem dX8_steamFor_26 : decode cX8_steamFor 26 = .ok (.iload_n 2, 1) := by decide +kernel
theorem dX8_steamFor_27 : decode cX8_steamFor 27 = .ok (.invokevirtual 230, 3) := by decide +kernel
theorem dX8_steamFor_30 : decode cX8_steamFor 30 = .ok (.aload_n 0, 1) := by decide +kernel
theorem dX8_steamFor_31 : decode cX8_steamFor 31 = .ok (.getfield 22, 3) := by decide +kernel
theorem dX8_steamFor_34 : decode cX8_steamFor 34 = .ok (.iload_n 1, 1) := by decide +kernel
theorem dX8_steamFor_35 : decode cX8_steamFor 35 = .ok (.iaload, 1) := by decide +kernel
theorem dX8_steamFor_36 : decode cX8_steamFor 36 = .ok (.ldc 219, 2) := by decide +kernel
theorem dX8_steamFor_38 : decode cX8_steamFor 38 = .ok (.if_icmp .ge 12, 3) := by decide +kernel
theorem dX8_steamFor_41 : decode cX8_steamFor 41 = .ok (.aload_n 0, 1) := by decide +kernel
theorem dX8_steamFor_42 : decode cX8_steamFor 42 = .ok (.getfield 22, 3) := by decide +kernel
theorem dX8_steamFor_45 : decode cX8_steamFor 45 = .ok (.iload_n 1, 1) := by decide +kernel
theorem dX8_steamFor_46 : decode cX8_steamFor 46 = .ok (.iaload, 1) := by decide +kernel
theorem dX8_steamFor_47 : decode cX8_steamFor 47 = .ok (.goto 8, 3) := by decide +kernel
theorem dX8_steamFor_50 : decode cX8_steamFor 50 = .ok (.aload_n 0, 1) := by decide +kernel
theorem dX8_steamFor_51 : decode cX8_steamFor 51 = .ok (.iconst 3, 1) := by decide +kernel
theorem dX8_steamFor_52 : decode cX8_steamFor 52 = .ok (.invokevirtual 93, 3) := by decide +kernel
theorem dX8_steamFor_55 : decode cX8_steamFor 55 = .ok (.ireturn, 1) := by decide +kernel
set_option maxRecDepth 20000 in
theorem ggX8_row_X8_findPrices : GoodIn wsX8_row wsX8_findPrices := goodIn_r _ [11, 2, 1, 12, 13, 14, 10, 15, 16, 17, 18, 5, 19, 20, 21, 22, 23, 24, 25, 26, 27, 28, 29, 30, 31, 32, 33, 34, 35, 36, 37, 44, 45, 46, 47, 48, 49, 50, 51, 52, 53, 54, 55, 56, 57, 58, 59, 60, 61, 62, 63] (by decide +kernel) (by decide +kernel)
set_option maxRecDepth 20000 in
theorem gX8_row_X8_findPrices : GoodIn wsX8_row (wsV RX8 226 RX8 yX8_findPrices wsX8_findPrices) := goodIn_app (goodIn_of _ (by decide +kernel)) ggX8_row_X8_findPrices
set_option maxRecDepth 20000 in
theorem ggX8_row_X8_finds : GoodIn wsX8_row wsX8_finds := goodIn_r _ [41, 42, 43, 44, 45, 46, 47, 48, 49, 50, 51, 52, 53, 54, 55, 56, 57, 58, 59, 60, 61, 62, 63] (by decide +kernel) (by decide +kernel)
set_option maxRecDepth 20000 in
theorem gX8_row_X8_finds : GoodIn wsX8_row (wsV RX8 93 RX8 yX8_finds wsX8_finds) := goodIn_app (goodIn_of _ (by decide +kernel)) ggX8_row_X8_finds
theorem dX8_row_0 : decode cX8_row 0 = .ok (.aload_n 0, 1) := by decide +kernel
theorem dX8_row_1 : decode cX8_row 1 = .ok (.iconst 1, 1) := by decide +kernel
theorem dX8_row_2 : decode cX8_row 2 = .ok (.invokevirtual 226, 3) := by decide +kernel
theorem dX8_row_5 : decode cX8_row 5 = .ok (.iconst (-1), 1) := by decide +kernel
theorem dX8_row_6 : decode cX8_row 6 = .ok (.istore_n 1, 1) := by decide +kernel
theorem dX8_row_7 : decode cX8_row 7 = .ok (.ldc 219, 2) := by decide +kernel
theorem dX8_row_9 : decode cX8_row 9 = .ok (.istore_n 2, 1) := by decide +kernel
theorem dX8_row_10 : decode cX8_row 10 = .ok (.iconst 0, 1) := by decide +kernel
theorem dX8_row_11 : decode cX8_row 11 = .ok (.istore_n 3, 1) := by decide +kernel
theorem dX8_row_12 : decode cX8_row 12 = .ok (.iload_n 3, 1) := by decide +kernel
theorem dX8_row_13 : decode cX8_row 13 = .ok (.bipush 6, 2) := by decide +kernel
theorem dX8_row_15 : decode cX8_row 15 = .ok (.if_icmp .ge 64, 3) := by decide +kernel
theorem dX8_row_18 : decode cX8_row 18 = .ok (.iconst 0, 1) := by decide +kernel
theorem dX8_row_19 : decode cX8_row 19 = .ok (.istore 4, 2) := by decide +kernel
theorem dX8_row_21 : decode cX8_row 21 = .ok (.iconst 0, 1) := by decide +kernel
theorem dX8_row_22 : decode cX8_row 22 = .ok (.istore 5, 2) := by decide +kernel
theorem dX8_row_24 : decode cX8_row 24 = .ok (.iload 5, 2) := by decide +kernel
theorem dX8_row_26 : decode cX8_row 26 = .ok (.bipush 8, 2) := by decide +kernel
theorem dX8_row_28 : decode cX8_row 28 = .ok (.if_icmp .ge 26, 3) := by decide +kernel
theorem dX8_row_31 : decode cX8_row 31 = .ok (.iload 4, 2) := by decide +kernel
theorem dX8_row_33 : decode cX8_row 33 = .ok (.aload_n 0, 1) := by decide +kernel
theorem dX8_row_34 : decode cX8_row 34 = .ok (.getfield 25, 3) := by decide +kernel
theorem dX8_row_37 : decode cX8_row 37 = .ok (.bipush 8, 2) := by decide +kernel
theorem dX8_row_39 : decode cX8_row 39 = .ok (.iload_n 3, 1) := by decide +kernel
theorem dX8_row_40 : decode cX8_row 40 = .ok (.imul, 1) := by decide +kernel
theorem dX8_row_41 : decode cX8_row 41 = .ok (.iload 5, 2) := by decide +kernel
theorem dX8_row_43 : decode cX8_row 43 = .ok (.iadd, 1) := by decide +kernel
theorem dX8_row_44 : decode cX8_row 44 = .ok (.iaload, 1) := by decide +kernel
theorem dX8_row_45 : decode cX8_row 45 = .ok (.iadd, 1) := by decide +kernel
theorem dX8_row_46 : decode cX8_row 46 = .ok (.istore 4, 2) := by decide +kernel
theorem dX8_row_48 : decode cX8_row 48 = .ok (.iinc 5 1, 3) := by decide +kernel
theorem dX8_row_51 : decode cX8_row 51 = .ok (.goto (-27), 3) := by decide +kernel
theorem dX8_row_54 : decode cX8_row 54 = .ok (.iload 4, 2) := by decide +kernel
theorem dX8_row_56 : decode cX8_row 56 = .ok (.iload_n 2, 1) := by decide +kernel
theorem dX8_row_57 : decode cX8_row 57 = .ok (.if_icmp .ge 7, 3) := by decide +kernel
theorem dX8_row_60 : decode cX8_row 60 = .ok (.iload_n 3, 1) := by decide +kernel
theorem dX8_row_61 : decode cX8_row 61 = .ok (.goto 4, 3) := by decide +kernel
theorem dX8_row_64 : decode cX8_row 64 = .ok (.iload_n 1, 1) := by decide +kernel
theorem dX8_row_65 : decode cX8_row 65 = .ok (.istore_n 1, 1) := by decide +kernel
theorem dX8_row_66 : decode cX8_row 66 = .ok (.iload_n 2, 1) := by decide +kernel
theorem dX8_row_67 : decode cX8_row 67 = .ok (.iload 4, 2) := by decide +kernel
theorem dX8_row_69 : decode cX8_row 69 = .ok (.invokestatic 171, 3) := by decide +kernel
theorem dX8_row_72 : decode cX8_row 72 = .ok (.istore_n 2, 1) := by decide +kernel
theorem dX8_row_73 : decode cX8_row 73 = .ok (.iinc 3 1, 3) := by decide +kernel
theorem dX8_row_76 : decode cX8_row 76 = .ok (.goto (-64), 3) := by decide +kernel
theorem dX8_row_79 : decode cX8_row 79 = .ok (.iload_n 1, 1) := by decide +kernel
theorem dX8_row_80 : decode cX8_row 80 = .ok (.ifCond .ge 11, 3) := by decide +kernel
theorem dX8_row_83 : decode cX8_row 83 = .ok (.aload_n 0, 1) := by decide +kernel
theorem dX8_row_84 : decode cX8_row 84 = .ok (.iconst 3, 1) := by decide +kernel
theorem dX8_row_85 : decode cX8_row 85 = .ok (.invokevirtual 93, 3) := by decide +kernel
theorem dX8_row_88 : decode cX8_row 88 = .ok (.goto 4, 3) := by decide +kernel
theorem dX8_row_91 : decode cX8_row 91 = .ok (.iload_n 1, 1) := by decide +kernel
theorem dX8_row_92 : decode cX8_row 92 = .ok (.ireturn, 1) := by decide +kernel
set_option maxRecDepth 20000 in
theorem ggX8_findPost_X8_sees : GoodIn wsX8_findPost wsX8_sees := goodIn_r _ [11, 12, 13, 14, 10, 15, 16, 17, 5, 18, 19, 20, 21, 22, 23, 24, 25, 26, 27, 28, 29, 30, 31, 32, 33, 34, 35, 36, 37, 38] (by decide +kernel) (by decide +kernel)
set_option maxRecDepth 20000 in
theorem gX8_findPost_X8_sees : GoodIn wsX8_findPost (wsV RX8 74 RX8 yX8_sees wsX8_sees) := goodIn_app (goodIn_of _ (by decide +kernel)) ggX8_findPost_X8_sees
theorem dX8_findPost_0 : decode cX8_findPost 0 = .ok (.aload_n 0, 1) := by decide +kernel
theorem dX8_findPost_1 : decode cX8_findPost 1 = .ok (.iconst (-1), 1) := by decide +kernel
theorem dX8_findPost_2 : decode cX8_findPost 2 = .ok (.putfield 233, 3) := by decide +kernel
theorem dX8_findPost_5 : decode cX8_findPost 5 = .ok (.iconst 0, 1) := by decide +kernel
theorem dX8_findPost_6 : decode cX8_findPost 6 = .ok (.istore_n 1, 1) := by decide +kernel
theorem dX8_findPost_7 : decode cX8_findPost 7 = .ok (.iload_n 1, 1) := by decide +kernel
theorem dX8_findPost_8 : decode cX8_findPost 8 = .ok (.bipush 48, 2) := by decide +kernel
theorem dX8_findPost_10 : decode cX8_findPost 10 = .ok (.if_icmp .ge 74, 3) := by decide +kernel
theorem dX8_findPost_13 : decode cX8_findPost 13 = .ok (.iconst 0, 1) := by decide +kernel
theorem dX8_findPost_14 : decode cX8_findPost 14 = .ok (.istore_n 2, 1) := by decide +kernel
theorem dX8_findPost_15 : decode cX8_findPost 15 = .ok (.iconst 0, 1) := by decide +kernel
theorem dX8_findPost_16 : decode cX8_findPost 16 = .ok (.istore_n 3, 1) := by decide +kernel
theorem dX8_findPost_17 : decode cX8_findPost 17 = .ok (.iload_n 3, 1) := by decide +kernel
theorem dX8_findPost_18 : decode cX8_findPost 18 = .ok (.bipush 48, 2) := by decide +kernel
theorem dX8_findPost_20 : decode cX8_findPost 20 = .ok (.if_icmp .ge 26, 3) := by decide +kernel
theorem dX8_findPost_23 : decode cX8_findPost 23 = .ok (.iload_n 2, 1) := by decide +kernel
theorem dX8_findPost_24 : decode cX8_findPost 24 = .ok (.aload_n 0, 1) := by decide +kernel
theorem dX8_findPost_25 : decode cX8_findPost 25 = .ok (.iload_n 1, 1) := by decide +kernel
theorem dX8_findPost_26 : decode cX8_findPost 26 = .ok (.iload_n 3, 1) := by decide +kernel
theorem dX8_findPost_27 : decode cX8_findPost 27 = .ok (.invokevirtual 74, 3) := by decide +kernel
theorem dX8_findPost_30 : decode cX8_findPost 30 = .ok (.ifCond .eq 7, 3) := by decide +kernel
theorem dX8_findPost_33 : decode cX8_findPost 33 = .ok (.iconst 1, 1) := by decide +kernel
theorem dX8_findPost_34 : decode cX8_findPost 34 = .ok (.goto 4, 3) := by decide +kernel
theorem dX8_findPost_37 : decode cX8_findPost 37 = .ok (.iconst 0, 1) := by decide +kernel
theorem dX8_findPost_38 : decode cX8_findPost 38 = .ok (.iadd, 1) := by decide +kernel
theorem dX8_findPost_39 : decode cX8_findPost 39 = .ok (.istore_n 2, 1) := by decide +kernel
theorem dX8_findPost_40 : decode cX8_findPost 40 = .ok (.iinc 3 1, 3) := by decide +kernel
theorem dX8_findPost_43 : decode cX8_findPost 43 = .ok (.goto (-26), 3) := by decide +kernel
theorem dX8_findPost_46 : decode cX8_findPost 46 = .ok (.aload_n 0, 1) := by decide +kernel
theorem dX8_findPost_47 : decode cX8_findPost 47 = .ok (.iload_n 2, 1) := by decide +kernel
theorem dX8_findPost_48 : decode cX8_findPost 48 = .ok (.aload_n 0, 1) := by decide +kernel
theorem dX8_findPost_49 : decode cX8_findPost 49 = .ok (.getfield 233, 3) := by decide +kernel
theorem dX8_findPost_52 : decode cX8_findPost 52 = .ok (.if_icmp .le 7, 3) := by decide +kernel
theorem dX8_findPost_55 : decode cX8_findPost 55 = .ok (.iload_n 1, 1) := by decide +kernel
theorem dX8_findPost_56 : decode cX8_findPost 56 = .ok (.goto 7, 3) := by decide +kernel
theorem dX8_findPost_59 : decode cX8_findPost 59 = .ok (.aload_n 0, 1) := by decide +kernel
theorem dX8_findPost_60 : decode cX8_findPost 60 = .ok (.getfield 237, 3) := by decide +kernel
theorem dX8_findPost_63 : decode cX8_findPost 63 = .ok (.putfield 237, 3) := by decide +kernel
theorem dX8_findPost_66 : decode cX8_findPost 66 = .ok (.aload_n 0, 1) := by decide +kernel
theorem dX8_findPost_67 : decode cX8_findPost 67 = .ok (.aload_n 0, 1) := by decide +kernel
theorem dX8_findPost_68 : decode cX8_findPost 68 = .ok (.getfield 233, 3) := by decide +kernel
theorem dX8_findPost_71 : decode cX8_findPost 71 = .ok (.iload_n 2, 1) := by decide +kernel
theorem dX8_findPost_72 : decode cX8_findPost 72 = .ok (.invokestatic 220, 3) := by decide +kernel
theorem dX8_findPost_75 : decode cX8_findPost 75 = .ok (.putfield 233, 3) := by decide +kernel
theorem dX8_findPost_78 : decode cX8_findPost 78 = .ok (.iinc 1 1, 3) := by decide +kernel
theorem dX8_findPost_81 : decode cX8_findPost 81 = .ok (.goto (-74), 3) := by decide +kernel
theorem dX8_findPost_84 : decode cX8_findPost 84 = .ok (.return_, 1) := by decide +kernel
set_option maxRecDepth 20000 in
theorem ggX8_post_X8_isGuard : GoodIn wsX8_post wsX8_isGuard := goodIn_r _ [5, 6, 7, 8, 4, 9] (by decide +kernel) (by decide +kernel)
set_option maxRecDepth 20000 in
theorem gX8_post_X8_isGuard : GoodIn wsX8_post (va_wsS RX8 105 yX8_isGuard wsX8_isGuard) := goodIn_app (goodIn_of _ (by decide +kernel)) ggX8_post_X8_isGuard
set_option maxRecDepth 20000 in
theorem ggX8_post_X8_finds : GoodIn wsX8_post wsX8_finds := goodIn_r _ [13, 14, 15, 36, 37, 38, 39, 40, 41, 42, 43, 44, 45, 46, 47, 48, 49, 50, 51, 52, 53, 54, 55] (by decide +kernel) (by decide +kernel)
set_option maxRecDepth 20000 in
theorem gX8_post_X8_finds : GoodIn wsX8_post (wsV RX8 93 RX8 yX8_finds wsX8_finds) := goodIn_app (goodIn_of _ (by decide +kernel)) ggX8_post_X8_finds
set_option maxRecDepth 20000 in
theorem ggX8_post_X8_findPost : GoodIn wsX8_post wsX8_findPost := goodIn_r _ [19, 20, 1, 21, 22, 23, 24, 25, 26, 27, 4, 28, 29, 30, 31, 32, 33, 34, 35, 36, 37, 38, 39, 40, 41, 42, 43, 44, 45, 46, 47, 48, 49, 50, 51, 52, 53, 54, 55] (by decide +kernel) (by decide +kernel)
set_option maxRecDepth 20000 in
theorem gX8_post_X8_findPost : GoodIn wsX8_post (wsV RX8 240 RX8 yX8_findPost wsX8_findPost) := goodIn_app (goodIn_of _ (by decide +kernel)) ggX8_post_X8_findPost
theorem dX8_post_0 : decode cX8_post 0 = .ok (.iload_n 1, 1) := by decide +kernel
theorem dX8_post_1 : decode cX8_post 1 = .ok (.invokestatic 105, 3) := by decide +kernel
theorem dX8_post_4 : decode cX8_post 4 = .ok (.ifCond .ne 9, 3) := by decide +kernel
theorem dX8_post_7 : decode cX8_post 7 = .ok (.aload_n 0, 1) := by decide +kernel
theorem dX8_post_8 : decode cX8_post 8 = .ok (.iconst 0, 1) := by decide +kernel
theorem dX8_post_9 : decode cX8_post 9 = .ok (.invokevirtual 93, 3) := by decide +kernel
theorem dX8_post_12 : decode cX8_post 12 = .ok (.ireturn, 1) := by decide +kernel
theorem dX8_post_13 : decode cX8_post 13 = .ok (.aload_n 0, 1) := by decide +kernel
theorem dX8_post_14 : decode cX8_post 14 = .ok (.invokevirtual 240, 3) := by decide +kernel
theorem dX8_post_17 : decode cX8_post 17 = .ok (.aload_n 0, 1) := by decide +kernel
theorem dX8_post_18 : decode cX8_post 18 = .ok (.getfield 237, 3) := by decide +kernel
theorem dX8_post_21 : decode cX8_post 21 = .ok (.ireturn, 1) := by decide +kernel
set_option maxRecDepth 20000 in
theorem ggX8_posted_X8_isGuard : GoodIn wsX8_posted wsX8_isGuard := goodIn_r _ [5, 6, 7, 8, 4, 9] (by decide +kernel) (by decide +kernel)
set_option maxRecDepth 20000 in
theorem gX8_posted_X8_isGuard : GoodIn wsX8_posted (va_wsS RX8 105 yX8_isGuard wsX8_isGuard) := goodIn_app (goodIn_of _ (by decide +kernel)) ggX8_posted_X8_isGuard
set_option maxRecDepth 20000 in
theorem ggX8_posted_X8_finds : GoodIn wsX8_posted wsX8_finds := goodIn_r _ [13, 14, 15, 36, 37, 38, 39, 40, 41, 42, 43, 44, 45, 46, 47, 48, 49, 50, 51, 52, 53, 54, 55] (by decide +kernel) (by decide +kernel)
set_option maxRecDepth 20000 in
theorem gX8_posted_X8_finds : GoodIn wsX8_posted (wsV RX8 93 RX8 yX8_finds wsX8_finds) := goodIn_app (goodIn_of _ (by decide +kernel)) ggX8_posted_X8_finds
set_option maxRecDepth 20000 in
theorem ggX8_posted_X8_findPost : GoodIn wsX8_posted wsX8_findPost := goodIn_r _ [19, 1, 20, 21, 22, 23, 24, 25, 26, 27, 4, 28, 29, 30, 31, 32, 33, 34, 35, 36, 37, 38, 39, 40, 41, 42, 43, 44, 45, 46, 47, 48, 49, 50, 51, 52, 53, 54, 55] (by decide +kernel) (by decide +kernel)
set_option maxRecDepth 20000 in
theorem gX8_posted_X8_findPost : GoodIn wsX8_posted (wsV RX8 240 RX8 yX8_findPost wsX8_findPost) := goodIn_app (goodIn_of _ (by decide +kernel)) ggX8_posted_X8_findPost
theorem dX8_posted_0 : decode cX8_posted 0 = .ok (.iload_n 1, 1) := by decide +kernel
theorem dX8_posted_1 : decode cX8_posted 1 = .ok (.invokestatic 105, 3) := by decide +kernel
theorem dX8_posted_4 : decode cX8_posted 4 = .ok (.ifCond .ne 9, 3) := by decide +kernel
theorem dX8_posted_7 : decode cX8_posted 7 = .ok (.aload_n 0, 1) := by decide +kernel
theorem dX8_posted_8 : decode cX8_posted 8 = .ok (.iconst 0, 1) := by decide +kernel
theorem dX8_posted_9 : decode cX8_posted 9 = .ok (.invokevirtual 93, 3) := by decide +kernel
theorem dX8_posted_12 : decode cX8_posted 12 = .ok (.ireturn, 1) := by decide +kernel
theorem dX8_posted_13 : decode cX8_posted 13 = .ok (.aload_n 0, 1) := by decide +kernel
theorem dX8_posted_14 : decode cX8_posted 14 = .ok (.invokevirtual 240, 3) := by decide +kernel
theorem dX8_posted_17 : decode cX8_posted 17 = .ok (.aload_n 0, 1) := by decide +kernel
theorem dX8_posted_18 : decode cX8_posted 18 = .ok (.getfield 233, 3) := by decide +kernel
theorem dX8_posted_21 : decode cX8_posted 21 = .ok (.ireturn, 1) := by decide +kernel
set_option maxRecDepth 20000 in
theorem ggX8_trap_X8_isGuard : GoodIn wsX8_trap wsX8_isGuard := goodIn_r _ [9, 10, 11, 12, 8, 13] (by decide +kernel) (by decide +kernel)
set_option maxRecDepth 20000 in
theorem gX8_trap_X8_isGuard : GoodIn wsX8_trap (va_wsS RX8 105 yX8_isGuard wsX8_isGuard) := goodIn_app (goodIn_of _ (by decide +kernel)) ggX8_trap_X8_isGuard
set_option maxRecDepth 20000 in
theorem ggX8_trap_X8_isBather : GoodIn wsX8_trap wsX8_isBather := goodIn_r _ [17, 1, 11, 12, 8, 13, 118, 119, 120, 121, 122, 123, 124, 125, 126, 127, 128, 129, 130, 131, 132, 133, 134, 135, 136, 137] (by decide +kernel) (by decide +kernel)
set_option maxRecDepth 20000 in
theorem gX8_trap_X8_isBather : GoodIn wsX8_trap (wsV RX8 154 RX8 yX8_isBather wsX8_isBather) := goodIn_app (goodIn_of _ (by decide +kernel)) ggX8_trap_X8_isBather
set_option maxRecDepth 20000 in
theorem ggX8_trap_X8_finds : GoodIn wsX8_trap wsX8_finds := goodIn_r _ [21, 22, 23, 118, 119, 120, 121, 122, 123, 124, 125, 126, 127, 128, 129, 130, 131, 132, 133, 134, 135, 136, 137] (by decide +kernel) (by decide +kernel)
set_option maxRecDepth 20000 in
theorem gX8_trap_X8_finds : GoodIn wsX8_trap (wsV RX8 93 RX8 yX8_finds wsX8_finds) := goodIn_app (goodIn_of _ (by decide +kernel)) ggX8_trap_X8_finds
set_option maxRecDepth 20000 in
theorem ggX8_trap_X8_until : GoodIn wsX8_trap wsX8_until := goodIn_r _ [27, 28, 29, 30, 8, 31, 1, 32, 33, 34, 35, 36, 37, 38, 39, 40, 41, 42, 43, 44, 45, 46, 47, 48, 49, 50, 51, 52, 53, 54, 55, 56, 57, 58, 59, 60, 61, 62, 63, 64, 65, 66, 67, 68, 4, 69, 70, 71, 72, 73, 74, 75, 76, 77, 2, 3, 5, 78, 79, 80, 81, 82, 83, 84, 85, 86, 87, 88, 89, 90, 91, 92, 93, 94, 95, 96, 97, 98, 11, 12, 13, 99, 100, 101, 102, 103, 104, 105, 106, 107, 108, 109, 110, 111, 112, 113, 114, 115, 116, 117, 118, 119, 120, 121, 122, 123, 124, 125, 126, 127, 128, 129, 130, 131, 132, 133, 134, 135, 136, 137] (by decide +kernel) (by decide +kernel)
set_option maxRecDepth 20000 in
theorem gX8_trap_X8_until : GoodIn wsX8_trap (wsV RX8 209 RX8 yX8_until wsX8_until) := goodIn_app (goodIn_of _ (by decide +kernel)) ggX8_trap_X8_until
theorem dX8_trap_0 : decode cX8_trap 0 = .ok (.iload_n 1, 1) := by decide +kernel
theorem dX8_trap_1 : decode cX8_trap 1 = .ok (.invokestatic 105, 3) := by decide +kernel
theorem dX8_trap_4 : decode cX8_trap 4 = .ok (.ifCond .eq 11, 3) := by decide +kernel
theorem dX8_trap_7 : decode cX8_trap 7 = .ok (.aload_n 0, 1) := by decide +kernel
theorem dX8_trap_8 : decode cX8_trap 8 = .ok (.iload_n 2, 1) := by decide +kernel
theorem dX8_trap_9 : decode cX8_trap 9 = .ok (.invokevirtual 154, 3) := by decide +kernel
theorem dX8_trap_12 : decode cX8_trap 12 = .ok (.ifCond .ne 9, 3) := by decide +kernel
theorem dX8_trap_15 : decode cX8_trap 15 = .ok (.aload_n 0, 1) := by decide +kernel
theorem dX8_trap_16 : decode cX8_trap 16 = .ok (.iconst 0, 1) := by decide +kernel
theorem dX8_trap_17 : decode cX8_trap 17 = .ok (.invokevirtual 93, 3) := by decide +kernel
theorem dX8_trap_20 : decode cX8_trap 20 = .ok (.ireturn, 1) := by decide +kernel
theorem dX8_trap_21 : decode cX8_trap 21 = .ok (.aload_n 0, 1) := by decide +kernel
theorem dX8_trap_22 : decode cX8_trap 22 = .ok (.getfield 9, 3) := by decide +kernel
theorem dX8_trap_25 : decode cX8_trap 25 = .ok (.iconst 5, 1) := by decide +kernel
theorem dX8_trap_26 : decode cX8_trap 26 = .ok (.iload_n 1, 1) := by decide +kernel
theorem dX8_trap_27 : decode cX8_trap 27 = .ok (.iadd, 1) := by decide +kernel
theorem dX8_trap_28 : decode cX8_trap 28 = .ok (.iaload, 1) := by decide +kernel
theorem dX8_trap_29 : decode cX8_trap 29 = .ok (.istore_n 3, 1) := by decide +kernel
theorem dX8_trap_30 : decode cX8_trap 30 = .ok (.iconst (-1), 1) := by decide +kernel
theorem dX8_trap_31 : decode cX8_trap 31 = .ok (.istore 4, 2) := by decide +kernel
theorem dX8_trap_33 : decode cX8_trap 33 = .ok (.bipush 101, 2) := by decide +kernel
theorem dX8_trap_35 : decode cX8_trap 35 = .ok (.istore 5, 2) := by decide +kernel
theorem dX8_trap_37 : decode cX8_trap 37 = .ok (.iconst 0, 1) := by decide +kernel
theorem dX8_trap_38 : decode cX8_trap 38 = .ok (.istore 6, 2) := by decide +kernel
theorem dX8_trap_40 : decode cX8_trap 40 = .ok (.iload 6, 2) := by decide +kernel
theorem dX8_trap_42 : decode cX8_trap 42 = .ok (.bipush 48, 2) := by decide +kernel
theorem dX8_trap_44 : decode cX8_trap 44 = .ok (.if_icmp .ge 53, 3) := by decide +kernel
theorem dX8_trap_47 : decode cX8_trap 47 = .ok (.aload_n 0, 1) := by decide +kernel
theorem dX8_trap_48 : decode cX8_trap 48 = .ok (.getfield 9, 3) := by decide +kernel
theorem dX8_trap_51 : decode cX8_trap 51 = .ok (.iconst 5, 1) := by decide +kernel
theorem dX8_trap_52 : decode cX8_trap 52 = .ok (.iload_n 1, 1) := by decide +kernel
theorem dX8_trap_53 : decode cX8_trap 53 = .ok (.iadd, 1) := by decide +kernel
theorem dX8_trap_54 : decode cX8_trap 54 = .ok (.iload 6, 2) := by decide +kernel
theorem dX8_trap_56 : decode cX8_trap 56 = .ok (.iastore, 1) := by decide +kernel
theorem dX8_trap_57 : decode cX8_trap 57 = .ok (.aload_n 0, 1) := by decide +kernel
theorem dX8_trap_58 : decode cX8_trap 58 = .ok (.iload_n 2, 1) := by decide +kernel
theorem dX8_trap_59 : decode cX8_trap 59 = .ok (.iconst 1, 1) := by decide +kernel
theorem dX8_trap_60 : decode cX8_trap 60 = .ok (.iconst 0, 1) := by decide +kernel
theorem dX8_trap_61 : decode cX8_trap 61 = .ok (.invokevirtual 209, 3) := by decide +kernel
theorem dX8_trap_64 : decode cX8_trap 64 = .ok (.istore 7, 2) := by decide +kernel
theorem dX8_trap_66 : decode cX8_trap 66 = .ok (.iload 7, 2) := by decide +kernel
theorem dX8_trap_68 : decode cX8_trap 68 = .ok (.iload 5, 2) := by decide +kernel
theorem dX8_trap_70 : decode cX8_trap 70 = .ok (.if_icmp .ge 8, 3) := by decide +kernel
theorem dX8_trap_73 : decode cX8_trap 73 = .ok (.iload 6, 2) := by decide +kernel
theorem dX8_trap_75 : decode cX8_trap 75 = .ok (.goto 5, 3) := by decide +kernel
theorem dX8_trap_78 : decode cX8_trap 78 = .ok (.iload 4, 2) := by decide +kernel
theorem dX8_trap_80 : decode cX8_trap 80 = .ok (.istore 4, 2) := by decide +kernel
theorem dX8_trap_82 : decode cX8_trap 82 = .ok (.iload 5, 2) := by decide +kernel
theorem dX8_trap_84 : decode cX8_trap 84 = .ok (.iload 7, 2) := by decide +kernel
theorem dX8_trap_86 : decode cX8_trap 86 = .ok (.invokestatic 171, 3) := by decide +kernel
theorem dX8_trap_89 : decode cX8_trap 89 = .ok (.istore 5, 2) := by decide +kernel
theorem dX8_trap_91 : decode cX8_trap 91 = .ok (.iinc 6 1, 3) := by decide +kernel
theorem dX8_trap_94 : decode cX8_trap 94 = .ok (.goto (-54), 3) := by decide +kernel
theorem dX8_trap_97 : decode cX8_trap 97 = .ok (.aload_n 0, 1) := by decide +kernel
theorem dX8_trap_98 : decode cX8_trap 98 = .ok (.getfield 9, 3) := by decide +kernel
theorem dX8_trap_101 : decode cX8_trap 101 = .ok (.iconst 5, 1) := by decide +kernel
theorem dX8_trap_102 : decode cX8_trap 102 = .ok (.iload_n 1, 1) := by decide +kernel
theorem dX8_trap_103 : decode cX8_trap 103 = .ok (.iadd, 1) := by decide +kernel
theorem dX8_trap_104 : decode cX8_trap 104 = .ok (.iload_n 3, 1) := by decide +kernel
theorem dX8_trap_105 : decode cX8_trap 105 = .ok (.iastore, 1) := by decide +kernel
theorem dX8_trap_106 : decode cX8_trap 106 = .ok (.iload 4, 2) := by decide +kernel
theorem dX8_trap_108 : decode cX8_trap 108 = .ok (.ifCond .ge 11, 3) := by decide +kernel
theorem dX8_trap_111 : decode cX8_trap 111 = .ok (.aload_n 0, 1) := by decide +kernel
theorem dX8_trap_112 : decode cX8_trap 112 = .ok (.iconst 3, 1) := by decide +kernel
theorem dX8_trap_113 : decode cX8_trap 113 = .ok (.invokevirtual 93, 3) := by decide +kernel
theorem dX8_trap_116 : decode cX8_trap 116 = .ok (.goto 5, 3) := by decide +kernel
theorem dX8_trap_119 : decode cX8_trap 119 = .ok (.iload 4, 2) := by decide +kernel
theorem dX8_trap_121 : decode cX8_trap 121 = .ok (.ireturn, 1) := by decide +kernel
theorem dX8_ones_0 : decode cX8_ones 0 = .ok (.iconst 0, 1) := by decide +kernel
theorem dX8_ones_1 : decode cX8_ones 1 = .ok (.istore_n 1, 1) := by decide +kernel
theorem dX8_ones_2 : decode cX8_ones 2 = .ok (.iconst 0, 1) := by decide +kernel
theorem dX8_ones_3 : decode cX8_ones 3 = .ok (.istore_n 2, 1) := by decide +kernel
theorem dX8_ones_4 : decode cX8_ones 4 = .ok (.iload_n 2, 1) := by decide +kernel
theorem dX8_ones_5 : decode cX8_ones 5 = .ok (.bipush 8, 2) := by decide +kernel
theorem dX8_ones_7 : decode cX8_ones 7 = .ok (.if_icmp .ge 17, 3) := by decide +kernel
theorem dX8_ones_10 : decode cX8_ones 10 = .ok (.iload_n 1, 1) := by decide +kernel
theorem dX8_ones_11 : decode cX8_ones 11 = .ok (.iload_n 0, 1) := by decide +kernel
theorem dX8_ones_12 : decode cX8_ones 12 = .ok (.iload_n 2, 1) := by decide +kernel
theorem dX8_ones_13 : decode cX8_ones 13 = .ok (.ishr, 1) := by decide +kernel
theorem dX8_ones_14 : decode cX8_ones 14 = .ok (.iconst 1, 1) := by decide +kernel
theorem dX8_ones_15 : decode cX8_ones 15 = .ok (.iand, 1) := by decide +kernel
theorem dX8_ones_16 : decode cX8_ones 16 = .ok (.iadd, 1) := by decide +kernel
theorem dX8_ones_17 : decode cX8_ones 17 = .ok (.istore_n 1, 1) := by decide +kernel
theorem dX8_ones_18 : decode cX8_ones 18 = .ok (.iinc 2 1, 3) := by decide +kernel
theorem dX8_ones_21 : decode cX8_ones 21 = .ok (.goto (-17), 3) := by decide +kernel
theorem dX8_ones_24 : decode cX8_ones 24 = .ok (.iload_n 1, 1) := by decide +kernel
theorem dX8_ones_25 : decode cX8_ones 25 = .ok (.ireturn, 1) := by decide +kernel
set_option maxRecDepth 20000 in
theorem ggX8_isEnough_X8_seenBy : GoodIn wsX8_isEnough wsX8_seenBy := goodIn_r _ [5, 6, 7, 8, 9, 4, 10, 11, 12, 13, 14, 15, 16, 17, 18, 19, 20, 21, 22, 23, 24, 25, 26, 27, 28, 29, 30, 31, 32, 33, 34, 35, 36, 37] (by decide +kernel) (by decide +kernel)
set_option maxRecDepth 20000 in
theorem gX8_isEnough_X8_seenBy : GoodIn wsX8_isEnough (wsV RX8 78 RX8 yX8_seenBy wsX8_seenBy) := goodIn_app (goodIn_of _ (by decide +kernel)) ggX8_isEnough_X8_seenBy
theorem dX8_isEnough_0 : decode cX8_isEnough 0 = .ok (.iconst 1, 1) := by decide +kernel
theorem dX8_isEnough_1 : decode cX8_isEnough 1 = .ok (.istore_n 2, 1) := by decide +kernel
theorem dX8_isEnough_2 : decode cX8_isEnough 2 = .ok (.iconst 0, 1) := by decide +kernel
theorem dX8_isEnough_3 : decode cX8_isEnough 3 = .ok (.istore_n 3, 1) := by decide +kernel
theorem dX8_isEnough_4 : decode cX8_isEnough 4 = .ok (.iload_n 3, 1) := by decide +kernel
theorem dX8_isEnough_5 : decode cX8_isEnough 5 = .ok (.bipush 48, 2) := by decide +kernel
theorem dX8_isEnough_7 : decode cX8_isEnough 7 = .ok (.if_icmp .ge 38, 3) := by decide +kernel
theorem dX8_isEnough_10 : decode cX8_isEnough 10 = .ok (.aload_n 0, 1) := by decide +kernel
theorem dX8_isEnough_11 : decode cX8_isEnough 11 = .ok (.iload_n 3, 1) := by decide +kernel
theorem dX8_isEnough_12 : decode cX8_isEnough 12 = .ok (.invokevirtual 78, 3) := by decide +kernel
theorem dX8_isEnough_15 : decode cX8_isEnough 15 = .ok (.istore 4, 2) := by decide +kernel
theorem dX8_isEnough_17 : decode cX8_isEnough 17 = .ok (.iload_n 2, 1) := by decide +kernel
theorem dX8_isEnough_18 : decode cX8_isEnough 18 = .ok (.ifCond .eq 19, 3) := by decide +kernel
theorem dX8_isEnough_21 : decode cX8_isEnough 21 = .ok (.iload 4, 2) := by decide +kernel
theorem dX8_isEnough_23 : decode cX8_isEnough 23 = .ok (.ifCond .eq 10, 3) := by decide +kernel
theorem dX8_isEnough_26 : decode cX8_isEnough 26 = .ok (.iload 4, 2) := by decide +kernel
theorem dX8_isEnough_28 : decode cX8_isEnough 28 = .ok (.iload_n 1, 1) := by decide +kernel
theorem dX8_isEnough_29 : decode cX8_isEnough 29 = .ok (.iand, 1) := by decide +kernel
theorem dX8_isEnough_30 : decode cX8_isEnough 30 = .ok (.ifCond .eq 7, 3) := by decide +kernel
theorem dX8_isEnough_33 : decode cX8_isEnough 33 = .ok (.iconst 1, 1) := by decide +kernel
theorem dX8_isEnough_34 : decode cX8_isEnough 34 = .ok (.goto 4, 3) := by decide +kernel
theorem dX8_isEnough_37 : decode cX8_isEnough 37 = .ok (.iconst 0, 1) := by decide +kernel
theorem dX8_isEnough_38 : decode cX8_isEnough 38 = .ok (.istore_n 2, 1) := by decide +kernel
theorem dX8_isEnough_39 : decode cX8_isEnough 39 = .ok (.iinc 3 1, 3) := by decide +kernel
theorem dX8_isEnough_42 : decode cX8_isEnough 42 = .ok (.goto (-38), 3) := by decide +kernel
theorem dX8_isEnough_45 : decode cX8_isEnough 45 = .ok (.iload_n 2, 1) := by decide +kernel
theorem dX8_isEnough_46 : decode cX8_isEnough 46 = .ok (.ireturn, 1) := by decide +kernel
set_option maxRecDepth 20000 in
theorem ggX8_enough_X8_ones : GoodIn wsX8_enough wsX8_ones := goodIn_r _ [4] (by decide +kernel) (by decide +kernel)
set_option maxRecDepth 20000 in
theorem gX8_enough_X8_ones : GoodIn wsX8_enough (va_wsS RX8 243 yX8_ones wsX8_ones) := goodIn_app (goodIn_of _ (by decide +kernel)) ggX8_enough_X8_ones
set_option maxRecDepth 20000 in
theorem ggX8_enough_X8_isEnough : GoodIn wsX8_enough wsX8_isEnough := goodIn_r _ [8, 9, 10, 11, 3, 12, 13, 14, 15, 16, 17, 18, 19, 20, 21, 22, 23, 24, 25, 26, 27, 28, 29, 30, 31, 32, 33, 34, 35, 36, 37, 38, 39, 40, 41, 42, 43, 44] (by decide +kernel) (by decide +kernel)
set_option maxRecDepth 20000 in
theorem gX8_enough_X8_isEnough : GoodIn wsX8_enough (wsV RX8 246 RX8 yX8_isEnough wsX8_isEnough) := goodIn_app (goodIn_of _ (by decide +kernel)) ggX8_enough_X8_isEnough
theorem dX8_enough_0 : decode cX8_enough 0 = .ok (.bipush 15, 2) := by decide +kernel
theorem dX8_enough_2 : decode cX8_enough 2 = .ok (.istore_n 1, 1) := by decide +kernel
theorem dX8_enough_3 : decode cX8_enough 3 = .ok (.iconst 0, 1) := by decide +kernel
theorem dX8_enough_4 : decode cX8_enough 4 = .ok (.istore_n 2, 1) := by decide +kernel
theorem dX8_enough_5 : decode cX8_enough 5 = .ok (.iload_n 2, 1) := by decide +kernel
theorem dX8_enough_6 : decode cX8_enough 6 = .ok (.bipush 16, 2) := by decide +kernel
theorem dX8_enough_8 : decode cX8_enough 8 = .ok (.if_icmp .ge 56, 3) := by decide +kernel
theorem dX8_enough_11 : decode cX8_enough 11 = .ok (.iload_n 2, 1) := by decide +kernel
theorem dX8_enough_12 : decode cX8_enough 12 = .ok (.invokestatic 243, 3) := by decide +kernel
theorem dX8_enough_15 : decode cX8_enough 15 = .ok (.iload_n 1, 1) := by decide +kernel
theorem dX8_enough_16 : decode cX8_enough 16 = .ok (.invokestatic 243, 3) := by decide +kernel
theorem dX8_enough_19 : decode cX8_enough 19 = .ok (.if_icmp .ge 7, 3) := by decide +kernel
theorem dX8_enough_22 : decode cX8_enough 22 = .ok (.iconst 1, 1) := by decide +kernel
theorem dX8_enough_23 : decode cX8_enough 23 = .ok (.goto 4, 3) := by decide +kernel
theorem dX8_enough_26 : decode cX8_enough 26 = .ok (.iconst 0, 1) := by decide +kernel
theorem dX8_enough_27 : decode cX8_enough 27 = .ok (.istore_n 3, 1) := by decide +kernel
theorem dX8_enough_28 : decode cX8_enough 28 = .ok (.aload_n 0, 1) := by decide +kernel
theorem dX8_enough_29 : decode cX8_enough 29 = .ok (.iload_n 2, 1) := by decide +kernel
theorem dX8_enough_30 : decode cX8_enough 30 = .ok (.invokevirtual 246, 3) := by decide +kernel
theorem dX8_enough_33 : decode cX8_enough 33 = .ok (.ifCond .eq 23, 3) := by decide +kernel
theorem dX8_enough_36 : decode cX8_enough 36 = .ok (.iload_n 3, 1) := by decide +kernel
theorem dX8_enough_37 : decode cX8_enough 37 = .ok (.ifCond .ne 15, 3) := by decide +kernel
theorem dX8_enough_40 : decode cX8_enough 40 = .ok (.iload_n 2, 1) := by decide +kernel
theorem dX8_enough_41 : decode cX8_enough 41 = .ok (.bipush 15, 2) := by decide +kernel
theorem dX8_enough_43 : decode cX8_enough 43 = .ok (.if_icmp .ne 13, 3) := by decide +kernel
theorem dX8_enough_46 : decode cX8_enough 46 = .ok (.iload_n 1, 1) := by decide +kernel
theorem dX8_enough_47 : decode cX8_enough 47 = .ok (.bipush 15, 2) := by decide +kernel
theorem dX8_enough_49 : decode cX8_enough 49 = .ok (.if_icmp .ne 7, 3) := by decide +kernel
theorem dX8_enough_52 : decode cX8_enough 52 = .ok (.iload_n 2, 1) := by decide +kernel
theorem dX8_enough_53 : decode cX8_enough 53 = .ok (.goto 4, 3) := by decide +kernel
theorem dX8_enough_56 : decode cX8_enough 56 = .ok (.iload_n 1, 1) := by decide +kernel
theorem dX8_enough_57 : decode cX8_enough 57 = .ok (.istore_n 1, 1) := by decide +kernel
theorem dX8_enough_58 : decode cX8_enough 58 = .ok (.iinc 2 1, 3) := by decide +kernel
theorem dX8_enough_61 : decode cX8_enough 61 = .ok (.goto (-56), 3) := by decide +kernel
theorem dX8_enough_64 : decode cX8_enough 64 = .ok (.iload_n 1, 1) := by decide +kernel
theorem dX8_enough_65 : decode cX8_enough 65 = .ok (.ireturn, 1) := by decide +kernel
set_option maxRecDepth 20000 in
theorem ggX8_fits_X8_lacks : GoodIn wsX8_fits wsX8_lacks := goodIn_r _ [8, 9, 10, 11, 7, 12, 13, 14, 15, 16, 109, 110, 111, 112, 113, 114, 115, 116, 117, 118, 119, 120, 121, 122, 123, 124, 125, 126, 127, 128] (by decide +kernel) (by decide +kernel)
set_option maxRecDepth 20000 in
theorem gX8_fits_X8_lacks : GoodIn wsX8_fits (wsV RX8 249 RX8 yX8_lacks wsX8_lacks) := goodIn_app (goodIn_of _ (by decide +kernel)) ggX8_fits_X8_lacks
set_option maxRecDepth 20000 in
theorem ggX8_fits_X8_finds : GoodIn wsX8_fits wsX8_finds := goodIn_r _ [20, 21, 22, 109, 110, 111, 112, 113, 114, 115, 116, 117, 118, 119, 120, 121, 122, 123, 124, 125, 126, 127, 128] (by decide +kernel) (by decide +kernel)
set_option maxRecDepth 20000 in
theorem gX8_fits_X8_finds : GoodIn wsX8_fits (wsV RX8 93 RX8 yX8_finds wsX8_finds) := goodIn_app (goodIn_of _ (by decide +kernel)) ggX8_fits_X8_finds
set_option maxRecDepth 20000 in
theorem ggX8_fits_X8_lends : GoodIn wsX8_fits wsX8_lends := goodIn_r _ [26, 1, 27, 28, 29, 7, 30, 109, 110, 111, 112, 113, 114, 115, 116, 117, 118, 119, 120, 121, 122, 123, 124, 125, 126, 127, 128] (by decide +kernel) (by decide +kernel)
set_option maxRecDepth 20000 in
theorem gX8_fits_X8_lends : GoodIn wsX8_fits (wsV RX8 199 RX8 yX8_lends wsX8_lends) := goodIn_app (goodIn_of _ (by decide +kernel)) ggX8_fits_X8_lends
set_option maxRecDepth 20000 in
theorem ggX8_fits_X8_its : GoodIn wsX8_fits wsX8_its := goodIn_r _ [34, 1, 109, 110, 111, 112, 113, 114, 115, 116, 117, 118, 119, 120, 121, 122, 123, 124, 125, 126, 127, 128] (by decide +kernel) (by decide +kernel)
set_option maxRecDepth 20000 in
theorem gX8_fits_X8_its : GoodIn wsX8_fits (wsV RX8 99 RX8 yX8_its wsX8_its) := goodIn_app (goodIn_of _ (by decide +kernel)) ggX8_fits_X8_its
set_option maxRecDepth 20000 in
theorem ggX8_fits_X8_aMinute : GoodIn wsX8_fits wsX8_aMinute := goodIn_r _ [38, 1, 39, 40, 41, 7, 42, 31, 32, 33, 34, 43, 44, 45, 46, 47, 48, 49, 50, 51, 52, 53, 54, 55, 56, 57, 58, 59, 60, 61, 62, 63, 64, 65, 66, 67, 68, 69, 70, 71, 14, 15, 16, 72, 73, 74, 75, 76, 77, 78, 79, 80, 81, 82, 83, 84, 85, 86, 87, 88, 89, 90, 91, 92, 93, 94, 95, 96, 97, 98, 99, 100, 101, 102, 103, 104, 109, 110, 111, 112, 113, 114, 115, 116, 117, 118, 119, 120, 121, 122, 123, 124, 125, 126, 127, 128] (by decide +kernel) (by decide +kernel)
set_option maxRecDepth 20000 in
theorem gX8_fits_X8_aMinute : GoodIn wsX8_fits (wsV RX8 181 RX8 yX8_aMinute wsX8_aMinute) := goodIn_app (goodIn_of _ (by decide +kernel)) ggX8_fits_X8_aMinute
set_option maxRecDepth 20000 in
theorem ggX8_fits_X8_laysBack : GoodIn wsX8_fits wsX8_laysBack := goodIn_r _ [108, 27, 1, 28, 29, 7, 30, 109, 110, 111, 112, 113, 114, 115, 116, 117, 118, 119, 120, 121, 122, 123, 124, 125, 126, 127, 128] (by decide +kernel) (by decide +kernel)
set_option maxRecDepth 20000 in
theorem gX8_fits_X8_laysBack : GoodIn wsX8_fits (wsV RX8 202 RX8 yX8_laysBack wsX8_laysBack) := goodIn_app (goodIn_of _ (by decide +kernel)) ggX8_fits_X8_laysBack
theorem dX8_fits_0 : decode cX8_fits 0 = .ok (.aload_n 0, 1) := by decide +kernel
theorem dX8_fits_1 : decode cX8_fits 1 = .ok (.iload_n 1, 1) := by decide +kernel
theorem dX8_fits_2 : decode cX8_fits 2 = .ok (.invokevirtual 249, 3) := by decide +kernel
theorem dX8_fits_5 : decode cX8_fits 5 = .ok (.istore_n 2, 1) := by decide +kernel
theorem dX8_fits_6 : decode cX8_fits 6 = .ok (.iload_n 2, 1) := by decide +kernel
theorem dX8_fits_7 : decode cX8_fits 7 = .ok (.ifCond .lt 9, 3) := by decide +kernel
theorem dX8_fits_10 : decode cX8_fits 10 = .ok (.aload_n 0, 1) := by decide +kernel
theorem dX8_fits_11 : decode cX8_fits 11 = .ok (.iload_n 2, 1) := by decide +kernel
theorem dX8_fits_12 : decode cX8_fits 12 = .ok (.invokevirtual 93, 3) := by decide +kernel
theorem dX8_fits_15 : decode cX8_fits 15 = .ok (.ireturn, 1) := by decide +kernel
theorem dX8_fits_16 : decode cX8_fits 16 = .ok (.iconst 1, 1) := by decide +kernel
theorem dX8_fits_17 : decode cX8_fits 17 = .ok (.aload_n 0, 1) := by decide +kernel
theorem dX8_fits_18 : decode cX8_fits 18 = .ok (.getfield 9, 3) := by decide +kernel
theorem dX8_fits_21 : decode cX8_fits 21 = .ok (.iconst 1, 1) := by decide +kernel
theorem dX8_fits_22 : decode cX8_fits 22 = .ok (.iaload, 1) := by decide +kernel
theorem dX8_fits_23 : decode cX8_fits 23 = .ok (.ishl, 1) := by decide +kernel
theorem dX8_fits_24 : decode cX8_fits 24 = .ok (.iconst 1, 1) := by decide +kernel
theorem dX8_fits_25 : decode cX8_fits 25 = .ok (.isub, 1) := by decide +kernel
theorem dX8_fits_26 : decode cX8_fits 26 = .ok (.istore_n 3, 1) := by decide +kernel
theorem dX8_fits_27 : decode cX8_fits 27 = .ok (.aload_n 0, 1) := by decide +kernel
theorem dX8_fits_28 : decode cX8_fits 28 = .ok (.invokevirtual 199, 3) := by decide +kernel
theorem dX8_fits_31 : decode cX8_fits 31 = .ok (.iconst 0, 1) := by decide +kernel
theorem dX8_fits_32 : decode cX8_fits 32 = .ok (.istore 4, 2) := by decide +kernel
theorem dX8_fits_34 : decode cX8_fits 34 = .ok (.iload 4, 2) := by decide +kernel
theorem dX8_fits_36 : decode cX8_fits 36 = .ok (.aload_n 0, 1) := by decide +kernel
theorem dX8_fits_37 : decode cX8_fits 37 = .ok (.getfield 42, 3) := by decide +kernel
theorem dX8_fits_40 : decode cX8_fits 40 = .ok (.iload_n 1, 1) := by decide +kernel
theorem dX8_fits_41 : decode cX8_fits 41 = .ok (.iaload, 1) := by decide +kernel
theorem dX8_fits_42 : decode cX8_fits 42 = .ok (.if_icmp .ge 78, 3) := by decide +kernel
theorem dX8_fits_45 : decode cX8_fits 45 = .ok (.aload_n 0, 1) := by decide +kernel
theorem dX8_fits_46 : decode cX8_fits 46 = .ok (.getfield 45, 3) := by decide +kernel
theorem dX8_fits_49 : decode cX8_fits 49 = .ok (.bipush 40, 2) := by decide +kernel
theorem dX8_fits_51 : decode cX8_fits 51 = .ok (.iload_n 1, 1) := by decide +kernel
theorem dX8_fits_52 : decode cX8_fits 52 = .ok (.imul, 1) := by decide +kernel
theorem dX8_fits_53 : decode cX8_fits 53 = .ok (.iload 4, 2) := by decide +kernel
theorem dX8_fits_55 : decode cX8_fits 55 = .ok (.iadd, 1) := by decide +kernel
theorem dX8_fits_56 : decode cX8_fits 56 = .ok (.iaload, 1) := by decide +kernel
theorem dX8_fits_57 : decode cX8_fits 57 = .ok (.istore 5, 2) := by decide +kernel
theorem dX8_fits_59 : decode cX8_fits 59 = .ok (.iconst 0, 1) := by decide +kernel
theorem dX8_fits_60 : decode cX8_fits 60 = .ok (.istore 6, 2) := by decide +kernel
theorem dX8_fits_62 : decode cX8_fits 62 = .ok (.iload 6, 2) := by decide +kernel
theorem dX8_fits_64 : decode cX8_fits 64 = .ok (.aload_n 0, 1) := by decide +kernel
theorem dX8_fits_65 : decode cX8_fits 65 = .ok (.getfield 9, 3) := by decide +kernel
theorem dX8_fits_68 : decode cX8_fits 68 = .ok (.iconst 1, 1) := by decide +kernel
theorem dX8_fits_69 : decode cX8_fits 69 = .ok (.iaload, 1) := by decide +kernel
theorem dX8_fits_70 : decode cX8_fits 70 = .ok (.if_icmp .ge 40, 3) := by decide +kernel
theorem dX8_fits_73 : decode cX8_fits 73 = .ok (.iload_n 3, 1) := by decide +kernel
theorem dX8_fits_74 : decode cX8_fits 74 = .ok (.iload 5, 2) := by decide +kernel
theorem dX8_fits_76 : decode cX8_fits 76 = .ok (.iconst (-1), 1) := by decide +kernel
theorem dX8_fits_77 : decode cX8_fits 77 = .ok (.if_icmp .eq 15, 3) := by decide +kernel
theorem dX8_fits_80 : decode cX8_fits 80 = .ok (.iload 5, 2) := by decide +kernel
theorem dX8_fits_82 : decode cX8_fits 82 = .ok (.aload_n 0, 1) := by decide +kernel
theorem dX8_fits_83 : decode cX8_fits 83 = .ok (.iload 6, 2) := by decide +kernel
theorem dX8_fits_85 : decode cX8_fits 85 = .ok (.iconst 3, 1) := by decide +kernel
theorem dX8_fits_86 : decode cX8_fits 86 = .ok (.invokevirtual 99, 3) := by decide +kernel
theorem dX8_fits_89 : decode cX8_fits 89 = .ok (.if_icmp .ne 7, 3) := by decide +kernel
theorem dX8_fits_92 : decode cX8_fits 92 = .ok (.iconst (-1), 1) := by decide +kernel
theorem dX8_fits_93 : decode cX8_fits 93 = .ok (.goto 9, 3) := by decide +kernel
theorem dX8_fits_96 : decode cX8_fits 96 = .ok (.iconst 1, 1) := by decide +kernel
theorem dX8_fits_97 : decode cX8_fits 97 = .ok (.iload 6, 2) := by decide +kernel
theorem dX8_fits_99 : decode cX8_fits 99 = .ok (.ishl, 1) := by decide +kernel
theorem dX8_fits_100 : decode cX8_fits 100 = .ok (.iconst (-1), 1) := by decide +kernel
theorem dX8_fits_101 : decode cX8_fits 101 = .ok (.ixor, 1) := by decide +kernel
theorem dX8_fits_102 : decode cX8_fits 102 = .ok (.iand, 1) := by decide +kernel
theorem dX8_fits_103 : decode cX8_fits 103 = .ok (.istore_n 3, 1) := by decide +kernel
theorem dX8_fits_104 : decode cX8_fits 104 = .ok (.iinc 6 1, 3) := by decide +kernel
theorem dX8_fits_107 : decode cX8_fits 107 = .ok (.goto (-45), 3) := by decide +kernel
theorem dX8_fits_110 : decode cX8_fits 110 = .ok (.aload_n 0, 1) := by decide +kernel
theorem dX8_fits_111 : decode cX8_fits 111 = .ok (.invokevirtual 181, 3) := by decide +kernel
theorem dX8_fits_114 : decode cX8_fits 114 = .ok (.iinc 4 1, 3) := by decide +kernel
theorem dX8_fits_117 : decode cX8_fits 117 = .ok (.goto (-83), 3) := by decide +kernel
theorem dX8_fits_120 : decode cX8_fits 120 = .ok (.aload_n 0, 1) := by decide +kernel
theorem dX8_fits_121 : decode cX8_fits 121 = .ok (.invokevirtual 202, 3) := by decide +kernel
theorem dX8_fits_124 : decode cX8_fits 124 = .ok (.iload_n 3, 1) := by decide +kernel
theorem dX8_fits_125 : decode cX8_fits 125 = .ok (.ireturn, 1) := by decide +kernel
set_option maxRecDepth 20000 in
theorem ggX8_swaps_X8_its : GoodIn wsX8_swaps wsX8_its := goodIn_r _ [6, 1, 13, 14, 15, 16, 17, 18, 19, 20, 21, 22, 23, 24, 25, 26, 27, 28, 29, 30, 31, 32] (by decide +kernel) (by decide +kernel)
set_option maxRecDepth 20000 in
theorem gX8_swaps_X8_its : GoodIn wsX8_swaps (wsV RX8 99 RX8 yX8_its wsX8_its) := goodIn_app (goodIn_of _ (by decide +kernel)) ggX8_swaps_X8_its
set_option maxRecDepth 20000 in
theorem ggX8_swaps_X8_finds : GoodIn wsX8_swaps wsX8_finds := goodIn_r _ [10, 11, 12, 13, 14, 15, 16, 17, 18, 19, 20, 21, 22, 23, 24, 25, 26, 27, 28, 29, 30, 31, 32] (by decide +kernel) (by decide +kernel)
set_option maxRecDepth 20000 in
theorem gX8_swaps_X8_finds : GoodIn wsX8_swaps (wsV RX8 93 RX8 yX8_finds wsX8_finds) := goodIn_app (goodIn_of _ (by decide +kernel)) ggX8_swaps_X8_finds
theorem dX8_swaps_0 : decode cX8_swaps 0 = .ok (.iconst 0, 1) := by decide +kernel
theorem dX8_swaps_1 : decode cX8_swaps 1 = .ok (.istore_n 1, 1) := by decide +kernel
theorem dX8_swaps_2 : decode cX8_swaps 2 = .ok (.iconst 0, 1) := by decide +kernel
theorem dX8_swaps_3 : decode cX8_swaps 3 = .ok (.istore_n 2, 1) := by decide +kernel
theorem dX8_swaps_4 : decode cX8_swaps 4 = .ok (.iload_n 2, 1) := by decide +kernel
theorem dX8_swaps_5 : decode cX8_swaps 5 = .ok (.aload_n 0, 1) := by decide +kernel
theorem dX8_swaps_6 : decode cX8_swaps 6 = .ok (.getfield 9, 3) := by decide +kernel
theorem dX8_swaps_9 : decode cX8_swaps 9 = .ok (.iconst 1, 1) := by decide +kernel
theorem dX8_swaps_10 : decode cX8_swaps 10 = .ok (.iaload, 1) := by decide +kernel
theorem dX8_swaps_11 : decode cX8_swaps 11 = .ok (.if_icmp .ge 20, 3) := by decide +kernel
theorem dX8_swaps_14 : decode cX8_swaps 14 = .ok (.iload_n 1, 1) := by decide +kernel
theorem dX8_swaps_15 : decode cX8_swaps 15 = .ok (.iconst 1, 1) := by decide +kernel
theorem dX8_swaps_16 : decode cX8_swaps 16 = .ok (.aload_n 0, 1) := by decide +kernel
theorem dX8_swaps_17 : decode cX8_swaps 17 = .ok (.iload_n 2, 1) := by decide +kernel
theorem dX8_swaps_18 : decode cX8_swaps 18 = .ok (.iconst 4, 1) := by decide +kernel
theorem dX8_swaps_19 : decode cX8_swaps 19 = .ok (.invokevirtual 99, 3) := by decide +kernel
theorem dX8_swaps_22 : decode cX8_swaps 22 = .ok (.ishl, 1) := by decide +kernel
theorem dX8_swaps_23 : decode cX8_swaps 23 = .ok (.ior, 1) := by decide +kernel
theorem dX8_swaps_24 : decode cX8_swaps 24 = .ok (.istore_n 1, 1) := by decide +kernel
theorem dX8_swaps_25 : decode cX8_swaps 25 = .ok (.iinc 2 1, 3) := by decide +kernel
theorem dX8_swaps_28 : decode cX8_swaps 28 = .ok (.goto (-24), 3) := by decide +kernel
theorem dX8_swaps_31 : decode cX8_swaps 31 = .ok (.iload_n 1, 1) := by decide +kernel
theorem dX8_swaps_32 : decode cX8_swaps 32 = .ok (.iconst 1, 1) := by decide +kernel
theorem dX8_swaps_33 : decode cX8_swaps 33 = .ok (.aload_n 0, 1) := by decide +kernel
theorem dX8_swaps_34 : decode cX8_swaps 34 = .ok (.getfield 9, 3) := by decide +kernel
theorem dX8_swaps_37 : decode cX8_swaps 37 = .ok (.iconst 1, 1) := by decide +kernel
theorem dX8_swaps_38 : decode cX8_swaps 38 = .ok (.iaload, 1) := by decide +kernel
theorem dX8_swaps_39 : decode cX8_swaps 39 = .ok (.ishl, 1) := by decide +kernel
theorem dX8_swaps_40 : decode cX8_swaps 40 = .ok (.iconst 1, 1) := by decide +kernel
theorem dX8_swaps_41 : decode cX8_swaps 41 = .ok (.isub, 1) := by decide +kernel
theorem dX8_swaps_42 : decode cX8_swaps 42 = .ok (.if_icmp .eq 9, 3) := by decide +kernel
theorem dX8_swaps_45 : decode cX8_swaps 45 = .ok (.aload_n 0, 1) := by decide +kernel
theorem dX8_swaps_46 : decode cX8_swaps 46 = .ok (.iconst 4, 1) := by decide +kernel
theorem dX8_swaps_47 : decode cX8_swaps 47 = .ok (.invokevirtual 93, 3) := by decide +kernel
theorem dX8_swaps_50 : decode cX8_swaps 50 = .ok (.ireturn, 1) := by decide +kernel
theorem dX8_swaps_51 : decode cX8_swaps 51 = .ok (.iconst 0, 1) := by decide +kernel
theorem dX8_swaps_52 : decode cX8_swaps 52 = .ok (.istore_n 2, 1) := by decide +kernel
theorem dX8_swaps_53 : decode cX8_swaps 53 = .ok (.iconst 0, 1) := by decide +kernel
theorem dX8_swaps_54 : decode cX8_swaps 54 = .ok (.istore_n 3, 1) := by decide +kernel
theorem dX8_swaps_55 : decode cX8_swaps 55 = .ok (.iconst 0, 1) := by decide +kernel
theorem dX8_swaps_56 : decode cX8_swaps 56 = .ok (.istore 4, 2) := by decide +kernel
theorem dX8_swaps_58 : decode cX8_swaps 58 = .ok (.iload 4, 2) := by decide +kernel
theorem dX8_swaps_60 : decode cX8_swaps 60 = .ok (.aload_n 0, 1) := by decide +kernel
theorem dX8_swaps_61 : decode cX8_swaps 61 = .ok (.getfield 9, 3) := by decide +kernel
theorem dX8_swaps_64 : decode cX8_swaps 64 = .ok (.iconst 1, 1) := by decide +kernel
theorem dX8_swaps_65 : decode cX8_swaps 65 = .ok (.iaload, 1) := by decide +kernel
theorem dX8_swaps_66 : decode cX8_swaps 66 = .ok (.if_icmp .ge 63, 3) := by decide +kernel
theorem dX8_swaps_69 : decode cX8_swaps 69 = .ok (.iload_n 3, 1) := by decide +kernel
theorem dX8_swaps_70 : decode cX8_swaps 70 = .ok (.iload 4, 2) := by decide +kernel
theorem dX8_swaps_72 : decode cX8_swaps 72 = .ok (.ishr, 1) := by decide +kernel
theorem dX8_swaps_73 : decode cX8_swaps 73 = .ok (.iconst 1, 1) := by decide +kernel
theorem dX8_swaps_74 : decode cX8_swaps 74 = .ok (.iand, 1) := by decide +kernel
theorem dX8_swaps_75 : decode cX8_swaps 75 = .ok (.ifCond .ne 48, 3) := by decide +kernel
theorem dX8_swaps_78 : decode cX8_swaps 78 = .ok (.iload_n 3, 1) := by decide +kernel
theorem dX8_swaps_79 : decode cX8_swaps 79 = .ok (.iconst 1, 1) := by decide +kernel
theorem dX8_swaps_80 : decode cX8_swaps 80 = .ok (.iload 4, 2) := by decide +kernel
theorem dX8_swaps_82 : decode cX8_swaps 82 = .ok (.ishl, 1) := by decide +kernel
theorem dX8_swaps_83 : decode cX8_swaps 83 = .ok (.ior, 1) := by decide +kernel
theorem dX8_swaps_84 : decode cX8_swaps 84 = .ok (.istore_n 3, 1) := by decide +kernel
theorem dX8_swaps_85 : decode cX8_swaps 85 = .ok (.aload_n 0, 1) := by decide +kernel
theorem dX8_swaps_86 : decode cX8_swaps 86 = .ok (.iload 4, 2) := by decide +kernel
theorem dX8_swaps_88 : decode cX8_swaps 88 = .ok (.iconst 4, 1) := by decide +kernel
theorem dX8_swaps_89 : decode cX8_swaps 89 = .ok (.invokevirtual 99, 3) := by decide +kernel
theorem dX8_swaps_92 : decode cX8_swaps 92 = .ok (.istore 5, 2) := by decide +kernel
theorem dX8_swaps_94 : decode cX8_swaps 94 = .ok (.iload 5, 2) := by decide +kernel
theorem dX8_swaps_96 : decode cX8_swaps 96 = .ok (.iload 4, 2) := by decide +kernel
theorem dX8_swaps_98 : decode cX8_swaps 98 = .ok (.if_icmp .eq 25, 3) := by decide +kernel
theorem dX8_swaps_101 : decode cX8_swaps 101 = .ok (.iload_n 3, 1) := by decide +kernel
theorem dX8_swaps_102 : decode cX8_swaps 102 = .ok (.iconst 1, 1) := by decide +kernel
theorem dX8_swaps_103 : decode cX8_swaps 103 = .ok (.iload 5, 2) := by decide +kernel
theorem dX8_swaps_105 : decode cX8_swaps 105 = .ok (.ishl, 1) := by decide +kernel
theorem dX8_swaps_106 : decode cX8_swaps 106 = .ok (.ior, 1) := by decide +kernel
theorem dX8_swaps_107 : decode cX8_swaps 107 = .ok (.istore_n 3, 1) := by decide +kernel
theorem dX8_swaps_108 : decode cX8_swaps 108 = .ok (.iinc 2 1, 3) := by decide +kernel
theorem dX8_swaps_111 : decode cX8_swaps 111 = .ok (.aload_n 0, 1) := by decide +kernel
theorem dX8_swaps_112 : decode cX8_swaps 112 = .ok (.iload 5, 2) := by decide +kernel
theorem dX8_swaps_114 : decode cX8_swaps 114 = .ok (.iconst 4, 1) := by decide +kernel
theorem dX8_swaps_115 : decode cX8_swaps 115 = .ok (.invokevirtual 99, 3) := by decide +kernel
theorem dX8_swaps_118 : decode cX8_swaps 118 = .ok (.istore 5, 2) := by decide +kernel
theorem dX8_swaps_120 : decode cX8_swaps 120 = .ok (.goto (-26), 3) := by decide +kernel
theorem dX8_swaps_123 : decode cX8_swaps 123 = .ok (.iinc 4 1, 3) := by decide +kernel
theorem dX8_swaps_126 : decode cX8_swaps 126 = .ok (.goto (-68), 3) := by decide +kernel
theorem dX8_swaps_129 : decode cX8_swaps 129 = .ok (.iload_n 2, 1) := by decide +kernel
theorem dX8_swaps_130 : decode cX8_swaps 130 = .ok (.ireturn, 1) := by decide +kernel
set_option maxRecDepth 20000 in
theorem ggX8_swap_X8_isBather : GoodIn wsX8_swap wsX8_isBather := goodIn_r _ [5, 6, 7, 8, 4, 9, 24, 25, 26, 27, 28, 29, 30, 31, 32, 33, 34, 35, 36, 37, 38, 39, 40, 41, 42, 43] (by decide +kernel) (by decide +kernel)
set_option maxRecDepth 20000 in
theorem gX8_swap_X8_isBather : GoodIn wsX8_swap (wsV RX8 154 RX8 yX8_isBather wsX8_isBather) := goodIn_app (goodIn_of _ (by decide +kernel)) ggX8_swap_X8_isBather
set_option maxRecDepth 20000 in
theorem ggX8_swap_X8_finds : GoodIn wsX8_swap wsX8_finds := goodIn_r _ [13, 14, 15, 24, 25, 26, 27, 28, 29, 30, 31, 32, 33, 34, 35, 36, 37, 38, 39, 40, 41, 42, 43] (by decide +kernel) (by decide +kernel)
set_option maxRecDepth 20000 in
theorem gX8_swap_X8_finds : GoodIn wsX8_swap (wsV RX8 93 RX8 yX8_finds wsX8_finds) := goodIn_app (goodIn_of _ (by decide +kernel)) ggX8_swap_X8_finds
set_option maxRecDepth 20000 in
theorem ggX8_swap_X8_its : GoodIn wsX8_swap wsX8_its := goodIn_r _ [19, 6, 24, 25, 26, 27, 28, 29, 30, 31, 32, 33, 34, 35, 36, 37, 38, 39, 40, 41, 42, 43] (by decide +kernel) (by decide +kernel)
set_option maxRecDepth 20000 in
theorem gX8_swap_X8_its : GoodIn wsX8_swap (wsV RX8 99 RX8 yX8_its wsX8_its) := goodIn_app (goodIn_of _ (by decide +kernel)) ggX8_swap_X8_its
set_option maxRecDepth 20000 in
theorem ggX8_swap_X8_sets : GoodIn wsX8_swap wsX8_sets := goodIn_r _ [23, 6, 24, 25, 26, 27, 28, 29, 30, 31, 32, 33, 34, 35, 36, 37, 38, 39, 40, 41, 42, 43] (by decide +kernel) (by decide +kernel)
set_option maxRecDepth 20000 in
theorem gX8_swap_X8_sets : GoodIn wsX8_swap (wsV RX8 141 RX8 yX8_sets wsX8_sets) := goodIn_app (goodIn_of _ (by decide +kernel)) ggX8_swap_X8_sets
theorem dX8_swap_0 : decode cX8_swap 0 = .ok (.aload_n 0, 1) := by decide +kernel
theorem dX8_swap_1 : decode cX8_swap 1 = .ok (.iload_n 1, 1) := by decide +kernel
theorem dX8_swap_2 : decode cX8_swap 2 = .ok (.invokevirtual 154, 3) := by decide +kernel
theorem dX8_swap_5 : decode cX8_swap 5 = .ok (.ifCond .eq 16, 3) := by decide +kernel
theorem dX8_swap_8 : decode cX8_swap 8 = .ok (.aload_n 0, 1) := by decide +kernel
theorem dX8_swap_9 : decode cX8_swap 9 = .ok (.iload_n 2, 1) := by decide +kernel
theorem dX8_swap_10 : decode cX8_swap 10 = .ok (.invokevirtual 154, 3) := by decide +kernel
theorem dX8_swap_13 : decode cX8_swap 13 = .ok (.ifCond .eq 8, 3) := by decide +kernel
theorem dX8_swap_16 : decode cX8_swap 16 = .ok (.iload_n 1, 1) := by decide +kernel
theorem dX8_swap_17 : decode cX8_swap 17 = .ok (.iload_n 2, 1) := by decide +kernel
theorem dX8_swap_18 : decode cX8_swap 18 = .ok (.if_icmp .ne 9, 3) := by decide +kernel
theorem dX8_swap_21 : decode cX8_swap 21 = .ok (.aload_n 0, 1) := by decide +kernel
theorem dX8_swap_22 : decode cX8_swap 22 = .ok (.iconst 0, 1) := by decide +kernel
theorem dX8_swap_23 : decode cX8_swap 23 = .ok (.invokevirtual 93, 3) := by decide +kernel
theorem dX8_swap_26 : decode cX8_swap 26 = .ok (.ireturn, 1) := by decide +kernel
theorem dX8_swap_27 : decode cX8_swap 27 = .ok (.aload_n 0, 1) := by decide +kernel
theorem dX8_swap_28 : decode cX8_swap 28 = .ok (.iload_n 1, 1) := by decide +kernel
theorem dX8_swap_29 : decode cX8_swap 29 = .ok (.iconst 4, 1) := by decide +kernel
theorem dX8_swap_30 : decode cX8_swap 30 = .ok (.invokevirtual 99, 3) := by decide +kernel
theorem dX8_swap_33 : decode cX8_swap 33 = .ok (.istore_n 3, 1) := by decide +kernel
theorem dX8_swap_34 : decode cX8_swap 34 = .ok (.aload_n 0, 1) := by decide +kernel
theorem dX8_swap_35 : decode cX8_swap 35 = .ok (.iload_n 2, 1) := by decide +kernel
theorem dX8_swap_36 : decode cX8_swap 36 = .ok (.iconst 4, 1) := by decide +kernel
theorem dX8_swap_37 : decode cX8_swap 37 = .ok (.invokevirtual 99, 3) := by decide +kernel
theorem dX8_swap_40 : decode cX8_swap 40 = .ok (.istore 4, 2) := by decide +kernel
theorem dX8_swap_42 : decode cX8_swap 42 = .ok (.aload_n 0, 1) := by decide +kernel
theorem dX8_swap_43 : decode cX8_swap 43 = .ok (.iload_n 1, 1) := by decide +kernel
theorem dX8_swap_44 : decode cX8_swap 44 = .ok (.iconst 4, 1) := by decide +kernel
theorem dX8_swap_45 : decode cX8_swap 45 = .ok (.iload 4, 2) := by decide +kernel
theorem dX8_swap_47 : decode cX8_swap 47 = .ok (.invokevirtual 141, 3) := by decide +kernel
theorem dX8_swap_50 : decode cX8_swap 50 = .ok (.aload_n 0, 1) := by decide +kernel
theorem dX8_swap_51 : decode cX8_swap 51 = .ok (.iload_n 2, 1) := by decide +kernel
theorem dX8_swap_52 : decode cX8_swap 52 = .ok (.iconst 4, 1) := by decide +kernel
theorem dX8_swap_53 : decode cX8_swap 53 = .ok (.iload_n 3, 1) := by decide +kernel
theorem dX8_swap_54 : decode cX8_swap 54 = .ok (.invokevirtual 141, 3) := by decide +kernel
theorem dX8_swap_57 : decode cX8_swap 57 = .ok (.iload_n 3, 1) := by decide +kernel
theorem dX8_swap_58 : decode cX8_swap 58 = .ok (.iload 4, 2) := by decide +kernel
theorem dX8_swap_60 : decode cX8_swap 60 = .ok (.if_icmp .ne 7, 3) := by decide +kernel
theorem dX8_swap_63 : decode cX8_swap 63 = .ok (.iconst 0, 1) := by decide +kernel
theorem dX8_swap_64 : decode cX8_swap 64 = .ok (.goto 4, 3) := by decide +kernel
theorem dX8_swap_67 : decode cX8_swap 67 = .ok (.iconst 1, 1) := by decide +kernel
theorem dX8_swap_68 : decode cX8_swap 68 = .ok (.ireturn, 1) := by decide +kernel
set_option maxRecDepth 20000 in
theorem ggX8_columnOf_X8_its : GoodIn wsX8_columnOf wsX8_its := goodIn_r _ [5, 6, 7, 8, 9, 10, 11, 12, 13, 14, 15, 16, 17, 18, 19, 20, 21, 22, 23, 24, 25, 26] (by decide +kernel) (by decide +kernel)
set_option maxRecDepth 20000 in
theorem gX8_columnOf_X8_its : GoodIn wsX8_columnOf (wsV RX8 99 RX8 yX8_its wsX8_its) := goodIn_app (goodIn_of _ (by decide +kernel)) ggX8_columnOf_X8_its
theorem dX8_columnOf_0 : decode cX8_columnOf 0 = .ok (.aload_n 0, 1) := by decide +kernel
theorem dX8_columnOf_1 : decode cX8_columnOf 1 = .ok (.iload_n 1, 1) := by decide +kernel
theorem dX8_columnOf_2 : decode cX8_columnOf 2 = .ok (.iconst 1, 1) := by decide +kernel
theorem dX8_columnOf_3 : decode cX8_columnOf 3 = .ok (.invokevirtual 99, 3) := by decide +kernel
theorem dX8_columnOf_6 : decode cX8_columnOf 6 = .ok (.istore_n 2, 1) := by decide +kernel
theorem dX8_columnOf_7 : decode cX8_columnOf 7 = .ok (.iload_n 2, 1) := by decide +kernel
theorem dX8_columnOf_8 : decode cX8_columnOf 8 = .ok (.bipush 100, 2) := by decide +kernel
theorem dX8_columnOf_10 : decode cX8_columnOf 10 = .ok (.if_icmp .ne 7, 3) := by decide +kernel
theorem dX8_columnOf_13 : decode cX8_columnOf 13 = .ok (.iconst 0, 1) := by decide +kernel
theorem dX8_columnOf_14 : decode cX8_columnOf 14 = .ok (.goto 18, 3) := by decide +kernel
theorem dX8_columnOf_17 : decode cX8_columnOf 17 = .ok (.iload_n 2, 1) := by decide +kernel
theorem dX8_columnOf_18 : decode cX8_columnOf 18 = .ok (.bipush 101, 2) := by decide +kernel
theorem dX8_columnOf_20 : decode cX8_columnOf 20 = .ok (.if_icmp .ne 8, 3) := by decide +kernel
theorem dX8_columnOf_23 : decode cX8_columnOf 23 = .ok (.bipush 7, 2) := by decide +kernel
theorem dX8_columnOf_25 : decode cX8_columnOf 25 = .ok (.goto 7, 3) := by decide +kernel
theorem dX8_columnOf_28 : decode cX8_columnOf 28 = .ok (.iload_n 2, 1) := by decide +kernel
theorem dX8_columnOf_29 : decode cX8_columnOf 29 = .ok (.bipush 8, 2) := by decide +kernel
theorem dX8_columnOf_31 : decode cX8_columnOf 31 = .ok (.irem, 1) := by decide +kernel
theorem dX8_columnOf_32 : decode cX8_columnOf 32 = .ok (.ireturn, 1) := by decide +kernel
set_option maxRecDepth 20000 in
theorem ggX8_tax_X8_isBather : GoodIn wsX8_tax wsX8_isBather := goodIn_r _ [5, 6, 7, 8, 4, 9, 110, 111, 112, 113, 114, 115, 116, 117, 118, 119, 120, 121, 122, 123, 124, 125, 126, 127, 128, 129] (by decide +kernel) (by decide +kernel)
set_option maxRecDepth 20000 in
theorem gX8_tax_X8_isBather : GoodIn wsX8_tax (wsV RX8 154 RX8 yX8_isBather wsX8_isBather) := goodIn_app (goodIn_of _ (by decide +kernel)) ggX8_tax_X8_isBather
set_option maxRecDepth 20000 in
theorem ggX8_tax_X8_isAhead : GoodIn wsX8_tax wsX8_isAhead := goodIn_r _ [12, 13, 7, 8, 4, 9] (by decide +kernel) (by decide +kernel)
set_option maxRecDepth 20000 in
theorem gX8_tax_X8_isAhead : GoodIn wsX8_tax (va_wsS RX8 196 yX8_isAhead wsX8_isAhead) := goodIn_app (goodIn_of _ (by decide +kernel)) ggX8_tax_X8_isAhead
set_option maxRecDepth 20000 in
theorem ggX8_tax_X8_finds : GoodIn wsX8_tax wsX8_finds := goodIn_r _ [17, 18, 19, 110, 111, 112, 113, 114, 115, 116, 117, 118, 119, 120, 121, 122, 123, 124, 125, 126, 127, 128, 129] (by decide +kernel) (by decide +kernel)
set_option maxRecDepth 20000 in
theorem gX8_tax_X8_finds : GoodIn wsX8_tax (wsV RX8 93 RX8 yX8_finds wsX8_finds) := goodIn_app (goodIn_of _ (by decide +kernel)) ggX8_tax_X8_finds
set_option maxRecDepth 20000 in
theorem ggX8_tax_X8_lends : GoodIn wsX8_tax wsX8_lends := goodIn_r _ [23, 6, 24, 25, 26, 4, 27, 110, 111, 112, 113, 114, 115, 116, 117, 118, 119, 120, 121, 122, 123, 124, 125, 126, 127, 128, 129] (by decide +kernel) (by decide +kernel)
set_option maxRecDepth 20000 in
theorem gX8_tax_X8_lends : GoodIn wsX8_tax (wsV RX8 199 RX8 yX8_lends wsX8_lends) := goodIn_app (goodIn_of _ (by decide +kernel)) ggX8_tax_X8_lends
set_option maxRecDepth 20000 in
theorem ggX8_tax_X8_aMinute : GoodIn wsX8_tax wsX8_aMinute := goodIn_r _ [31, 6, 32, 33, 34, 4, 35, 36, 37, 38, 39, 40, 41, 42, 43, 44, 45, 46, 47, 48, 49, 50, 51, 52, 53, 54, 55, 56, 57, 58, 59, 60, 61, 62, 63, 64, 65, 66, 67, 68, 7, 8, 9, 69, 70, 71, 72, 73, 74, 75, 76, 77, 78, 79, 80, 81, 82, 83, 84, 85, 86, 87, 88, 89, 90, 91, 92, 93, 94, 95, 96, 97, 98, 99, 100, 101, 110, 111, 112, 113, 114, 115, 116, 117, 118, 119, 120, 121, 122, 123, 124, 125, 126, 127, 128, 129] (by decide +kernel) (by decide +kernel)
set_option maxRecDepth 20000 in
theorem gX8_tax_X8_aMinute : GoodIn wsX8_tax (wsV RX8 181 RX8 yX8_aMinute wsX8_aMinute) := goodIn_app (goodIn_of _ (by decide +kernel)) ggX8_tax_X8_aMinute
set_option maxRecDepth 20000 in
theorem ggX8_tax_X8_columnOf : GoodIn wsX8_tax wsX8_columnOf := goodIn_r _ [105, 36, 37, 38, 4, 39, 6, 110, 111, 112, 113, 114, 115, 116, 117, 118, 119, 120, 121, 122, 123, 124, 125, 126, 127, 128, 129] (by decide +kernel) (by decide +kernel)
set_option maxRecDepth 20000 in
theorem gX8_tax_X8_columnOf : GoodIn wsX8_tax (wsV RX8 252 RX8 yX8_columnOf wsX8_columnOf) := goodIn_app (goodIn_of _ (by decide +kernel)) ggX8_tax_X8_columnOf
set_option maxRecDepth 20000 in
theorem ggX8_tax_X8_laysBack : GoodIn wsX8_tax wsX8_laysBack := goodIn_r _ [109, 24, 6, 25, 26, 4, 27, 110, 111, 112, 113, 114, 115, 116, 117, 118, 119, 120, 121, 122, 123, 124, 125, 126, 127, 128, 129] (by decide +kernel) (by decide +kernel)
set_option maxRecDepth 20000 in
theorem gX8_tax_X8_laysBack : GoodIn wsX8_tax (wsV RX8 202 RX8 yX8_laysBack wsX8_laysBack) := goodIn_app (goodIn_of _ (by decide +kernel)) ggX8_tax_X8_laysBack
theorem dX8_tax_0 : decode cX8_tax 0 = .ok (.aload_n 0, 1) := by decide +kernel
theorem dX8_tax_1 : decode cX8_tax 1 = .ok (.iload_n 1, 1) := by decide +kernel
theorem dX8_tax_2 : decode cX8_tax 2 = .ok (.invokevirtual 154, 3) := by decide +kernel
theorem dX8_tax_5 : decode cX8_tax 5 = .ok (.ifCond .eq 10, 3) := by decide +kernel
theorem dX8_tax_8 : decode cX8_tax 8 = .ok (.iload_n 2, 1) := by decide +kernel
theorem dX8_tax_9 : decode cX8_tax 9 = .ok (.invokestatic 196, 3) := by decide +kernel
theorem dX8_tax_12 : decode cX8_tax 12 = .ok (.ifCond .ne 9, 3) := by decide +kernel
theorem dX8_tax_15 : decode cX8_tax 15 = .ok (.aload_n 0, 1) := by decide +kernel
theorem dX8_tax_16 : decode cX8_tax 16 = .ok (.iconst 0, 1) := by decide +kernel
theorem dX8_tax_17 : decode cX8_tax 17 = .ok (.invokevirtual 93, 3) := by decide +kernel
theorem dX8_tax_20 : decode cX8_tax 20 = .ok (.ireturn, 1) := by decide +kernel
theorem dX8_tax_21 : decode cX8_tax 21 = .ok (.aload_n 0, 1) := by decide +kernel
theorem dX8_tax_22 : decode cX8_tax 22 = .ok (.invokevirtual 199, 3) := by decide +kernel
theorem dX8_tax_25 : decode cX8_tax 25 = .ok (.iconst 0, 1) := by decide +kernel
theorem dX8_tax_26 : decode cX8_tax 26 = .ok (.istore_n 3, 1) := by decide +kernel
theorem dX8_tax_27 : decode cX8_tax 27 = .ok (.iconst 0, 1) := by decide +kernel
theorem dX8_tax_28 : decode cX8_tax 28 = .ok (.istore 4, 2) := by decide +kernel
theorem dX8_tax_30 : decode cX8_tax 30 = .ok (.iload 4, 2) := by decide +kernel
theorem dX8_tax_32 : decode cX8_tax 32 = .ok (.iload_n 2, 1) := by decide +kernel
theorem dX8_tax_33 : decode cX8_tax 33 = .ok (.if_icmp .ge 21, 3) := by decide +kernel
theorem dX8_tax_36 : decode cX8_tax 36 = .ok (.aload_n 0, 1) := by decide +kernel
theorem dX8_tax_37 : decode cX8_tax 37 = .ok (.invokevirtual 181, 3) := by decide +kernel
theorem dX8_tax_40 : decode cX8_tax 40 = .ok (.iload_n 3, 1) := by decide +kernel
theorem dX8_tax_41 : decode cX8_tax 41 = .ok (.aload_n 0, 1) := by decide +kernel
theorem dX8_tax_42 : decode cX8_tax 42 = .ok (.iload_n 1, 1) := by decide +kernel
theorem dX8_tax_43 : decode cX8_tax 43 = .ok (.invokevirtual 252, 3) := by decide +kernel
theorem dX8_tax_46 : decode cX8_tax 46 = .ok (.iadd, 1) := by decide +kernel
theorem dX8_tax_47 : decode cX8_tax 47 = .ok (.istore_n 3, 1) := by decide +kernel
theorem dX8_tax_48 : decode cX8_tax 48 = .ok (.iinc 4 1, 3) := by decide +kernel
theorem dX8_tax_51 : decode cX8_tax 51 = .ok (.goto (-21), 3) := by decide +kernel
theorem dX8_tax_54 : decode cX8_tax 54 = .ok (.aload_n 0, 1) := by decide +kernel
theorem dX8_tax_55 : decode cX8_tax 55 = .ok (.invokevirtual 202, 3) := by decide +kernel
theorem dX8_tax_58 : decode cX8_tax 58 = .ok (.iload_n 3, 1) := by decide +kernel
theorem dX8_tax_59 : decode cX8_tax 59 = .ok (.ireturn, 1) := by decide +kernel
set_option maxRecDepth 20000 in
theorem ggX8_boilers_X8_in : GoodIn wsX8_boilers wsX8_in := goodIn_r _ [7] (by decide +kernel) (by decide +kernel)
set_option maxRecDepth 20000 in
theorem gX8_boilers_X8_in : GoodIn wsX8_boilers (va_wsS RX8 58 yX8_in wsX8_in) := goodIn_app (goodIn_of _ (by decide +kernel)) ggX8_boilers_X8_in
set_option maxRecDepth 20000 in
theorem ggX8_boilers_X8_finds : GoodIn wsX8_boilers wsX8_finds := goodIn_r _ [11, 12, 13, 14, 15, 16, 17, 18, 19, 20, 21, 22, 23, 24, 25, 26, 27, 28, 29, 30, 31, 32, 33] (by decide +kernel) (by decide +kernel)
set_option maxRecDepth 20000 in
theorem gX8_boilers_X8_finds : GoodIn wsX8_boilers (wsV RX8 93 RX8 yX8_finds wsX8_finds) := goodIn_app (goodIn_of _ (by decide +kernel)) ggX8_boilers_X8_finds
theorem dX8_boilers_0 : decode cX8_boilers 0 = .ok (.iload_n 1, 1) := by decide +kernel
theorem dX8_boilers_1 : decode cX8_boilers 1 = .ok (.i2l, 1) := by decide +kernel
theorem dX8_boilers_2 : decode cX8_boilers 2 = .ok (.lconst 0, 1) := by decide +kernel
theorem dX8_boilers_3 : decode cX8_boilers 3 = .ok (.ldc2_w 255, 3) := by decide +kernel
theorem dX8_boilers_6 : decode cX8_boilers 6 = .ok (.invokestatic 58, 3) := by decide +kernel
theorem dX8_boilers_9 : decode cX8_boilers 9 = .ok (.ifCond .eq 15, 3) := by decide +kernel
theorem dX8_boilers_12 : decode cX8_boilers 12 = .ok (.iload_n 2, 1) := by decide +kernel
theorem dX8_boilers_13 : decode cX8_boilers 13 = .ok (.i2l, 1) := by decide +kernel
theorem dX8_boilers_14 : decode cX8_boilers 14 = .ok (.lconst 1, 1) := by decide +kernel
theorem dX8_boilers_15 : decode cX8_boilers 15 = .ok (.ldc2_w 255, 3) := by decide +kernel
theorem dX8_boilers_18 : decode cX8_boilers 18 = .ok (.invokestatic 58, 3) := by decide +kernel
theorem dX8_boilers_21 : decode cX8_boilers 21 = .ok (.ifCond .ne 10, 3) := by decide +kernel
theorem dX8_boilers_24 : decode cX8_boilers 24 = .ok (.aload_n 0, 1) := by decide +kernel
theorem dX8_boilers_25 : decode cX8_boilers 25 = .ok (.iconst 0, 1) := by decide +kernel
theorem dX8_boilers_26 : decode cX8_boilers 26 = .ok (.invokevirtual 93, 3) := by decide +kernel
theorem dX8_boilers_29 : decode cX8_boilers 29 = .ok (.i2l, 1) := by decide +kernel
theorem dX8_boilers_30 : decode cX8_boilers 30 = .ok (.lreturn, 1) := by decide +kernel
theorem dX8_boilers_31 : decode cX8_boilers 31 = .ok (.iconst 0, 1) := by decide +kernel
theorem dX8_boilers_32 : decode cX8_boilers 32 = .ok (.istore_n 3, 1) := by decide +kernel
theorem dX8_boilers_33 : decode cX8_boilers 33 = .ok (.iload_n 3, 1) := by decide +kernel
theorem dX8_boilers_34 : decode cX8_boilers 34 = .ok (.iload_n 1, 1) := by decide +kernel
theorem dX8_boilers_35 : decode cX8_boilers 35 = .ok (.if_icmp .gt 63, 3) := by decide +kernel
theorem dX8_boilers_38 : decode cX8_boilers 38 = .ok (.aload_n 0, 1) := by decide +kernel
theorem dX8_boilers_39 : decode cX8_boilers 39 = .ok (.getfield 32, 3) := by decide +kernel
theorem dX8_boilers_42 : decode cX8_boilers 42 = .ok (.iload_n 3, 1) := by decide +kernel
theorem dX8_boilers_43 : decode cX8_boilers 43 = .ok (.iload_n 3, 1) := by decide +kernel
theorem dX8_boilers_44 : decode cX8_boilers 44 = .ok (.ifCond .ne 7, 3) := by decide +kernel
theorem dX8_boilers_47 : decode cX8_boilers 47 = .ok (.lconst 1, 1) := by decide +kernel
theorem dX8_boilers_48 : decode cX8_boilers 48 = .ok (.goto 4, 3) := by decide +kernel
theorem dX8_boilers_51 : decode cX8_boilers 51 = .ok (.lconst 0, 1) := by decide +kernel
theorem dX8_boilers_52 : decode cX8_boilers 52 = .ok (.lastore, 1) := by decide +kernel
theorem dX8_boilers_53 : decode cX8_boilers 53 = .ok (.iconst 1, 1) := by decide +kernel
theorem dX8_boilers_54 : decode cX8_boilers 54 = .ok (.istore 4, 2) := by decide +kernel
theorem dX8_boilers_56 : decode cX8_boilers 56 = .ok (.iload 4, 2) := by decide +kernel
theorem dX8_boilers_58 : decode cX8_boilers 58 = .ok (.iload_n 2, 1) := by decide +kernel
theorem dX8_boilers_59 : decode cX8_boilers 59 = .ok (.if_icmp .gt 33, 3) := by decide +kernel
theorem dX8_boilers_62 : decode cX8_boilers 62 = .ok (.iload 4, 2) := by decide +kernel
theorem dX8_boilers_64 : decode cX8_boilers 64 = .ok (.iload_n 3, 1) := by decide +kernel
theorem dX8_boilers_65 : decode cX8_boilers 65 = .ok (.if_icmp .gt 27, 3) := by decide +kernel
theorem dX8_boilers_68 : decode cX8_boilers 68 = .ok (.aload_n 0, 1) := by decide +kernel
theorem dX8_boilers_69 : decode cX8_boilers 69 = .ok (.getfield 32, 3) := by decide +kernel
theorem dX8_boilers_72 : decode cX8_boilers 72 = .ok (.iload_n 3, 1) := by decide +kernel
theorem dX8_boilers_73 : decode cX8_boilers 73 = .ok (.dup2, 1) := by decide +kernel
theorem dX8_boilers_74 : decode cX8_boilers 74 = .ok (.laload, 1) := by decide +kernel
theorem dX8_boilers_75 : decode cX8_boilers 75 = .ok (.aload_n 0, 1) := by decide +kernel
theorem dX8_boilers_76 : decode cX8_boilers 76 = .ok (.getfield 32, 3) := by decide +kernel
theorem dX8_boilers_79 : decode cX8_boilers 79 = .ok (.iload_n 3, 1) := by decide +kernel
theorem dX8_boilers_80 : decode cX8_boilers 80 = .ok (.iload 4, 2) := by decide +kernel
theorem dX8_boilers_82 : decode cX8_boilers 82 = .ok (.isub, 1) := by decide +kernel
theorem dX8_boilers_83 : decode cX8_boilers 83 = .ok (.laload, 1) := by decide +kernel
theorem dX8_boilers_84 : decode cX8_boilers 84 = .ok (.ladd, 1) := by decide +kernel
theorem dX8_boilers_85 : decode cX8_boilers 85 = .ok (.lastore, 1) := by decide +kernel
theorem dX8_boilers_86 : decode cX8_boilers 86 = .ok (.iinc 4 1, 3) := by decide +kernel
theorem dX8_boilers_89 : decode cX8_boilers 89 = .ok (.goto (-33), 3) := by decide +kernel
theorem dX8_boilers_92 : decode cX8_boilers 92 = .ok (.iinc 3 1, 3) := by decide +kernel
theorem dX8_boilers_95 : decode cX8_boilers 95 = .ok (.goto (-62), 3) := by decide +kernel
theorem dX8_boilers_98 : decode cX8_boilers 98 = .ok (.iload_n 1, 1) := by decide +kernel
theorem dX8_boilers_99 : decode cX8_boilers 99 = .ok (.ifCond .ne 7, 3) := by decide +kernel
theorem dX8_boilers_102 : decode cX8_boilers 102 = .ok (.lconst 1, 1) := by decide +kernel
theorem dX8_boilers_103 : decode cX8_boilers 103 = .ok (.goto 13, 3) := by decide +kernel
theorem dX8_boilers_106 : decode cX8_boilers 106 = .ok (.ldc2_w 257, 3) := by decide +kernel
theorem dX8_boilers_109 : decode cX8_boilers 109 = .ok (.aload_n 0, 1) := by decide +kernel
theorem dX8_boilers_110 : decode cX8_boilers 110 = .ok (.getfield 32, 3) := by decide +kernel
theorem dX8_boilers_113 : decode cX8_boilers 113 = .ok (.iload_n 1, 1) := by decide +kernel
theorem dX8_boilers_114 : decode cX8_boilers 114 = .ok (.laload, 1) := by decide +kernel
theorem dX8_boilers_115 : decode cX8_boilers 115 = .ok (.lmul, 1) := by decide +kernel
theorem dX8_boilers_116 : decode cX8_boilers 116 = .ok (.lreturn, 1) := by decide +kernel
theorem dX8_draw_0 : decode cX8_draw 0 = .ok (.aload_n 0, 1) := by decide +kernel
theorem dX8_draw_1 : decode cX8_draw 1 = .ok (.getfield 9, 3) := by decide +kernel
theorem dX8_draw_4 : decode cX8_draw 4 = .ok (.iconst 4, 1) := by decide +kernel
theorem dX8_draw_5 : decode cX8_draw 5 = .ok (.aload_n 0, 1) := by decide +kernel
theorem dX8_draw_6 : decode cX8_draw 6 = .ok (.getfield 9, 3) := by decide +kernel
theorem dX8_draw_9 : decode cX8_draw 9 = .ok (.iconst 4, 1) := by decide +kernel
theorem dX8_draw_10 : decode cX8_draw 10 = .ok (.iaload, 1) := by decide +kernel
theorem dX8_draw_11 : decode cX8_draw 11 = .ok (.ldc_w 259, 3) := by decide +kernel
theorem dX8_draw_14 : decode cX8_draw 14 = .ok (.imul, 1) := by decide +kernel
theorem dX8_draw_15 : decode cX8_draw 15 = .ok (.sipush 12345, 3) := by decide +kernel
theorem dX8_draw_18 : decode cX8_draw 18 = .ok (.iadd, 1) := by decide +kernel
theorem dX8_draw_19 : decode cX8_draw 19 = .ok (.iastore, 1) := by decide +kernel
theorem dX8_draw_20 : decode cX8_draw 20 = .ok (.aload_n 0, 1) := by decide +kernel
theorem dX8_draw_21 : decode cX8_draw 21 = .ok (.getfield 9, 3) := by decide +kernel
theorem dX8_draw_24 : decode cX8_draw 24 = .ok (.iconst 4, 1) := by decide +kernel
theorem dX8_draw_25 : decode cX8_draw 25 = .ok (.iaload, 1) := by decide +kernel
theorem dX8_draw_26 : decode cX8_draw 26 = .ok (.bipush 8, 2) := by decide +kernel
theorem dX8_draw_28 : decode cX8_draw 28 = .ok (.iushr, 1) := by decide +kernel
theorem dX8_draw_29 : decode cX8_draw 29 = .ok (.ireturn, 1) := by decide +kernel
set_option maxRecDepth 20000 in
theorem ggX8_steams_X8_in : GoodIn wsX8_steams wsX8_in := goodIn_r _ [11] (by decide +kernel) (by decide +kernel)
set_option maxRecDepth 20000 in
theorem gX8_steams_X8_in : GoodIn wsX8_steams (va_wsS RX8 58 yX8_in wsX8_in) := goodIn_app (goodIn_of _ (by decide +kernel)) ggX8_steams_X8_in
set_option maxRecDepth 20000 in
theorem ggX8_steams_X8_finds : GoodIn wsX8_steams wsX8_finds := goodIn_r _ [15, 16, 17, 96, 97, 98, 99, 100, 101, 102, 103, 104, 105, 106, 107, 108, 109, 110, 111, 112, 113, 114, 115] (by decide +kernel) (by decide +kernel)
set_option maxRecDepth 20000 in
theorem gX8_steams_X8_finds : GoodIn wsX8_steams (wsV RX8 93 RX8 yX8_finds wsX8_finds) := goodIn_app (goodIn_of _ (by decide +kernel)) ggX8_steams_X8_finds
set_option maxRecDepth 20000 in
theorem ggX8_steams_X8_draw : GoodIn wsX8_steams wsX8_draw := goodIn_r _ [21, 2, 22, 96, 97, 98, 99, 100, 101, 102, 103, 104, 105, 106, 107, 108, 109, 110, 111, 112, 113, 114, 115] (by decide +kernel) (by decide +kernel)
set_option maxRecDepth 20000 in
theorem gX8_steams_X8_draw : GoodIn wsX8_steams (wsV RX8 262 RX8 yX8_draw wsX8_draw) := goodIn_app (goodIn_of _ (by decide +kernel)) ggX8_steams_X8_draw
set_option maxRecDepth 20000 in
theorem ggX8_steams_X8_aMinute : GoodIn wsX8_steams wsX8_aMinute := goodIn_r _ [26, 2, 27, 28, 29, 10, 30, 31, 32, 33, 34, 35, 36, 37, 38, 4, 5, 6, 7, 3, 39, 40, 41, 42, 43, 44, 45, 46, 47, 48, 49, 50, 51, 52, 53, 54, 55, 56, 57, 58, 8, 9, 11, 59, 60, 61, 62, 63, 64, 65, 66, 67, 68, 69, 70, 71, 72, 73, 74, 75, 76, 77, 78, 79, 80, 81, 82, 83, 84, 85, 86, 87, 88, 89, 90, 91, 96, 97, 98, 99, 100, 101, 102, 103, 104, 105, 106, 107, 108, 109, 110, 111, 112, 113, 114, 115] (by decide +kernel) (by decide +kernel)
set_option maxRecDepth 20000 in
theorem gX8_steams_X8_aMinute : GoodIn wsX8_steams (wsV RX8 181 RX8 yX8_aMinute wsX8_aMinute) := goodIn_app (goodIn_of _ (by decide +kernel)) ggX8_steams_X8_aMinute
set_option maxRecDepth 20000 in
theorem ggX8_steams_X8_isCaught : GoodIn wsX8_steams wsX8_isCaught := goodIn_r _ [95, 27, 28, 29, 10, 30, 31, 32, 33, 34, 2, 62, 63, 64, 65, 66, 67, 68, 69, 70, 71, 72, 73, 74, 75, 76, 77, 78, 6, 79, 96, 97, 98, 99, 100, 101, 102, 103, 104, 105, 106, 107, 108, 109, 110, 111, 112, 113, 114, 115] (by decide +kernel) (by decide +kernel)
set_option maxRecDepth 20000 in
theorem gX8_steams_X8_isCaught : GoodIn wsX8_steams (wsV RX8 157 RX8 yX8_isCaught wsX8_isCaught) := goodIn_app (goodIn_of _ (by decide +kernel)) ggX8_steams_X8_isCaught
theorem dX8_steams_0 : decode cX8_steams 0 = .ok (.iload_n 1, 1) := by decide +kernel
theorem dX8_steams_1 : decode cX8_steams 1 = .ok (.i2l, 1) := by decide +kernel
theorem dX8_steams_2 : decode cX8_steams 2 = .ok (.lconst 1, 1) := by decide +kernel
theorem dX8_steams_3 : decode cX8_steams 3 = .ok (.ldc2_w 260, 3) := by decide +kernel
theorem dX8_steams_6 : decode cX8_steams 6 = .ok (.invokestatic 58, 3) := by decide +kernel
theorem dX8_steams_9 : decode cX8_steams 9 = .ok (.ifCond .ne 9, 3) := by decide +kernel
theorem dX8_steams_12 : decode cX8_steams 12 = .ok (.aload_n 0, 1) := by decide +kernel
theorem dX8_steams_13 : decode cX8_steams 13 = .ok (.iconst 0, 1) := by decide +kernel
theorem dX8_steams_14 : decode cX8_steams 14 = .ok (.invokevirtual 93, 3) := by decide +kernel
theorem dX8_steams_17 : decode cX8_steams 17 = .ok (.ireturn, 1) := by decide +kernel
theorem dX8_steams_18 : decode cX8_steams 18 = .ok (.aload_n 0, 1) := by decide +kernel
theorem dX8_steams_19 : decode cX8_steams 19 = .ok (.getfield 9, 3) := by decide +kernel
theorem dX8_steams_22 : decode cX8_steams 22 = .ok (.iconst 0, 1) := by decide +kernel
theorem dX8_steams_23 : decode cX8_steams 23 = .ok (.iaload, 1) := by decide +kernel
theorem dX8_steams_24 : decode cX8_steams 24 = .ok (.iload_n 1, 1) := by decide +kernel
theorem dX8_steams_25 : decode cX8_steams 25 = .ok (.iadd, 1) := by decide +kernel
theorem dX8_steams_26 : decode cX8_steams 26 = .ok (.ldc 174, 2) := by decide +kernel
theorem dX8_steams_28 : decode cX8_steams 28 = .ok (.if_icmp .le 9, 3) := by decide +kernel
theorem dX8_steams_31 : decode cX8_steams 31 = .ok (.aload_n 0, 1) := by decide +kernel
theorem dX8_steams_32 : decode cX8_steams 32 = .ok (.iconst 4, 1) := by decide +kernel
theorem dX8_steams_33 : decode cX8_steams 33 = .ok (.invokevirtual 93, 3) := by decide +kernel
theorem dX8_steams_36 : decode cX8_steams 36 = .ok (.ireturn, 1) := by decide +kernel
theorem dX8_steams_37 : decode cX8_steams 37 = .ok (.iconst 0, 1) := by decide +kernel
theorem dX8_steams_38 : decode cX8_steams 38 = .ok (.istore_n 2, 1) := by decide +kernel
theorem dX8_steams_39 : decode cX8_steams 39 = .ok (.iconst 0, 1) := by decide +kernel
theorem dX8_steams_40 : decode cX8_steams 40 = .ok (.istore_n 3, 1) := by decide +kernel
theorem dX8_steams_41 : decode cX8_steams 41 = .ok (.iload_n 3, 1) := by decide +kernel
theorem dX8_steams_42 : decode cX8_steams 42 = .ok (.iload_n 1, 1) := by decide +kernel
theorem dX8_steams_43 : decode cX8_steams 43 = .ok (.if_icmp .ge 83, 3) := by decide +kernel
theorem dX8_steams_46 : decode cX8_steams 46 = .ok (.bipush 9, 2) := by decide +kernel
theorem dX8_steams_48 : decode cX8_steams 48 = .ok (.aload_n 0, 1) := by decide +kernel
theorem dX8_steams_49 : decode cX8_steams 49 = .ok (.invokevirtual 262, 3) := by decide +kernel
theorem dX8_steams_52 : decode cX8_steams 52 = .ok (.bipush 48, 2) := by decide +kernel
theorem dX8_steams_54 : decode cX8_steams 54 = .ok (.irem, 1) := by decide +kernel
theorem dX8_steams_55 : decode cX8_steams 55 = .ok (.iadd, 1) := by decide +kernel
theorem dX8_steams_56 : decode cX8_steams 56 = .ok (.istore 4, 2) := by decide +kernel
theorem dX8_steams_58 : decode cX8_steams 58 = .ok (.aload_n 0, 1) := by decide +kernel
theorem dX8_steams_59 : decode cX8_steams 59 = .ok (.getfield 9, 3) := by decide +kernel
theorem dX8_steams_62 : decode cX8_steams 62 = .ok (.iload 4, 2) := by decide +kernel
theorem dX8_steams_64 : decode cX8_steams 64 = .ok (.bipush 9, 2) := by decide +kernel
theorem dX8_steams_66 : decode cX8_steams 66 = .ok (.aload_n 0, 1) := by decide +kernel
theorem dX8_steams_67 : decode cX8_steams 67 = .ok (.getfield 9, 3) := by decide +kernel
theorem dX8_steams_70 : decode cX8_steams 70 = .ok (.iload 4, 2) := by decide +kernel
theorem dX8_steams_72 : decode cX8_steams 72 = .ok (.iaload, 1) := by decide +kernel
theorem dX8_steams_73 : decode cX8_steams 73 = .ok (.iconst 1, 1) := by decide +kernel
theorem dX8_steams_74 : decode cX8_steams 74 = .ok (.iadd, 1) := by decide +kernel
theorem dX8_steams_75 : decode cX8_steams 75 = .ok (.invokestatic 171, 3) := by decide +kernel
theorem dX8_steams_78 : decode cX8_steams 78 = .ok (.iastore, 1) := by decide +kernel
theorem dX8_steams_79 : decode cX8_steams 79 = .ok (.aload_n 0, 1) := by decide +kernel
theorem dX8_steams_80 : decode cX8_steams 80 = .ok (.invokevirtual 181, 3) := by decide +kernel
theorem dX8_steams_83 : decode cX8_steams 83 = .ok (.iconst 0, 1) := by decide +kernel
theorem dX8_steams_84 : decode cX8_steams 84 = .ok (.istore 5, 2) := by decide +kernel
theorem dX8_steams_86 : decode cX8_steams 86 = .ok (.iload 5, 2) := by decide +kernel
theorem dX8_steams_88 : decode cX8_steams 88 = .ok (.aload_n 0, 1) := by decide +kernel
theorem dX8_steams_89 : decode cX8_steams 89 = .ok (.getfield 9, 3) := by decide +kernel
theorem dX8_steams_92 : decode cX8_steams 92 = .ok (.iconst 1, 1) := by decide +kernel
theorem dX8_steams_93 : decode cX8_steams 93 = .ok (.iaload, 1) := by decide +kernel
theorem dX8_steams_94 : decode cX8_steams 94 = .ok (.if_icmp .ge 26, 3) := by decide +kernel
theorem dX8_steams_97 : decode cX8_steams 97 = .ok (.iload_n 2, 1) := by decide +kernel
theorem dX8_steams_98 : decode cX8_steams 98 = .ok (.aload_n 0, 1) := by decide +kernel
theorem dX8_steams_99 : decode cX8_steams 99 = .ok (.iload 5, 2) := by decide +kernel
theorem dX8_steams_101 : decode cX8_steams 101 = .ok (.invokevirtual 157, 3) := by decide +kernel
theorem dX8_steams_104 : decode cX8_steams 104 = .ok (.ifCond .eq 7, 3) := by decide +kernel
theorem dX8_steams_107 : decode cX8_steams 107 = .ok (.iconst 1, 1) := by decide +kernel
theorem dX8_steams_108 : decode cX8_steams 108 = .ok (.goto 4, 3) := by decide +kernel
theorem dX8_steams_111 : decode cX8_steams 111 = .ok (.iconst 0, 1) := by decide +kernel
theorem dX8_steams_112 : decode cX8_steams 112 = .ok (.iadd, 1) := by decide +kernel
theorem dX8_steams_113 : decode cX8_steams 113 = .ok (.istore_n 2, 1) := by decide +kernel
theorem dX8_steams_114 : decode cX8_steams 114 = .ok (.iinc 5 1, 3) := by decide +kernel
theorem dX8_steams_117 : decode cX8_steams 117 = .ok (.goto (-31), 3) := by decide +kernel
theorem dX8_steams_120 : decode cX8_steams 120 = .ok (.iinc 3 1, 3) := by decide +kernel
theorem dX8_steams_123 : decode cX8_steams 123 = .ok (.goto (-82), 3) := by decide +kernel
theorem dX8_steams_126 : decode cX8_steams 126 = .ok (.iload_n 2, 1) := by decide +kernel
theorem dX8_steams_127 : decode cX8_steams 127 = .ok (.ireturn, 1) := by decide +kernel
set_option maxRecDepth 20000 in
theorem ggX8_seed_X8_becomes : GoodIn wsX8_seed wsX8_becomes := goodIn_r _ [5, 6, 7, 8, 9, 10, 11, 12, 13, 14, 15, 16, 17, 18, 19, 20, 21, 22, 23, 24, 25, 26] (by decide +kernel) (by decide +kernel)
set_option maxRecDepth 20000 in
theorem gX8_seed_X8_becomes : GoodIn wsX8_seed (wsV RX8 96 RX8 yX8_becomes wsX8_becomes) := goodIn_app (goodIn_of _ (by decide +kernel)) ggX8_seed_X8_becomes
theorem dX8_seed_0 : decode cX8_seed 0 = .ok (.aload_n 0, 1) := by decide +kernel
theorem dX8_seed_1 : decode cX8_seed 1 = .ok (.iconst 4, 1) := by decide +kernel
theorem dX8_seed_2 : decode cX8_seed 2 = .ok (.iload_n 1, 1) := by decide +kernel
theorem dX8_seed_3 : decode cX8_seed 3 = .ok (.invokevirtual 96, 3) := by decide +kernel
theorem dX8_seed_6 : decode cX8_seed 6 = .ok (.ireturn, 1) := by decide +kernel
set_option maxRecDepth 20000 in
theorem ggX8_feed_X8_in : GoodIn wsX8_feed wsX8_in := goodIn_r _ [7] (by decide +kernel) (by decide +kernel)
set_option maxRecDepth 20000 in
theorem gX8_feed_X8_in : GoodIn wsX8_feed (va_wsS RX8 58 yX8_in wsX8_in) := goodIn_app (goodIn_of _ (by decide +kernel)) ggX8_feed_X8_in
set_option maxRecDepth 20000 in
theorem ggX8_feed_X8_finds : GoodIn wsX8_feed wsX8_finds := goodIn_r _ [11, 12, 13, 14, 15, 16, 17, 18, 19, 20, 21, 22, 23, 24, 25, 26, 27, 28, 29, 30, 31, 32, 33] (by decide +kernel) (by decide +kernel)
set_option maxRecDepth 20000 in
theorem gX8_feed_X8_finds : GoodIn wsX8_feed (wsV RX8 93 RX8 yX8_finds wsX8_finds) := goodIn_app (goodIn_of _ (by decide +kernel)) ggX8_feed_X8_finds
theorem dX8_feed_0 : decode cX8_feed 0 = .ok (.iload_n 2, 1) := by decide +kernel
theorem dX8_feed_1 : decode cX8_feed 1 = .ok (.i2l, 1) := by decide +kernel
theorem dX8_feed_2 : decode cX8_feed 2 = .ok (.lconst 1, 1) := by decide +kernel
theorem dX8_feed_3 : decode cX8_feed 3 = .ok (.ldc2_w 91, 3) := by decide +kernel
theorem dX8_feed_6 : decode cX8_feed 6 = .ok (.invokestatic 58, 3) := by decide +kernel
theorem dX8_feed_9 : decode cX8_feed 9 = .ok (.ifCond .ne 9, 3) := by decide +kernel
theorem dX8_feed_12 : decode cX8_feed 12 = .ok (.aload_n 0, 1) := by decide +kernel
theorem dX8_feed_13 : decode cX8_feed 13 = .ok (.iconst 0, 1) := by decide +kernel
theorem dX8_feed_14 : decode cX8_feed 14 = .ok (.invokevirtual 93, 3) := by decide +kernel
theorem dX8_feed_17 : decode cX8_feed 17 = .ok (.ireturn, 1) := by decide +kernel
theorem dX8_feed_18 : decode cX8_feed 18 = .ok (.aload_n 0, 1) := by decide +kernel
theorem dX8_feed_19 : decode cX8_feed 19 = .ok (.getfield 265, 3) := by decide +kernel
theorem dX8_feed_22 : decode cX8_feed 22 = .ok (.iload_n 2, 1) := by decide +kernel
theorem dX8_feed_23 : decode cX8_feed 23 = .ok (.iadd, 1) := by decide +kernel
theorem dX8_feed_24 : decode cX8_feed 24 = .ok (.bipush 120, 2) := by decide +kernel
theorem dX8_feed_26 : decode cX8_feed 26 = .ok (.if_icmp .le 9, 3) := by decide +kernel
theorem dX8_feed_29 : decode cX8_feed 29 = .ok (.aload_n 0, 1) := by decide +kernel
theorem dX8_feed_30 : decode cX8_feed 30 = .ok (.iconst 1, 1) := by decide +kernel
theorem dX8_feed_31 : decode cX8_feed 31 = .ok (.invokevirtual 93, 3) := by decide +kernel
theorem dX8_feed_34 : decode cX8_feed 34 = .ok (.ireturn, 1) := by decide +kernel
theorem dX8_feed_35 : decode cX8_feed 35 = .ok (.iload_n 2, 1) := by decide +kernel
theorem dX8_feed_36 : decode cX8_feed 36 = .ok (.iconst 1, 1) := by decide +kernel
theorem dX8_feed_37 : decode cX8_feed 37 = .ok (.isub, 1) := by decide +kernel
theorem dX8_feed_38 : decode cX8_feed 38 = .ok (.istore_n 3, 1) := by decide +kernel
theorem dX8_feed_39 : decode cX8_feed 39 = .ok (.iload_n 3, 1) := by decide +kernel
theorem dX8_feed_40 : decode cX8_feed 40 = .ok (.ifCond .lt 38, 3) := by decide +kernel
theorem dX8_feed_43 : decode cX8_feed 43 = .ok (.aload_n 0, 1) := by decide +kernel
theorem dX8_feed_44 : decode cX8_feed 44 = .ok (.getfield 36, 3) := by decide +kernel
theorem dX8_feed_47 : decode cX8_feed 47 = .ok (.aload_n 0, 1) := by decide +kernel
theorem dX8_feed_48 : decode cX8_feed 48 = .ok (.getfield 265, 3) := by decide +kernel
theorem dX8_feed_51 : decode cX8_feed 51 = .ok (.iload_n 1, 1) := by decide +kernel
theorem dX8_feed_52 : decode cX8_feed 52 = .ok (.bipush 8, 2) := by decide +kernel
theorem dX8_feed_54 : decode cX8_feed 54 = .ok (.iload_n 3, 1) := by decide +kernel
theorem dX8_feed_55 : decode cX8_feed 55 = .ok (.imul, 1) := by decide +kernel
theorem dX8_feed_56 : decode cX8_feed 56 = .ok (.ishr, 1) := by decide +kernel
theorem dX8_feed_57 : decode cX8_feed 57 = .ok (.sipush 255, 3) := by decide +kernel
theorem dX8_feed_60 : decode cX8_feed 60 = .ok (.iand, 1) := by decide +kernel
theorem dX8_feed_61 : decode cX8_feed 61 = .ok (.iastore, 1) := by decide +kernel
theorem dX8_feed_62 : decode cX8_feed 62 = .ok (.aload_n 0, 1) := by decide +kernel
theorem dX8_feed_63 : decode cX8_feed 63 = .ok (.dup, 1) := by decide +kernel
theorem dX8_feed_64 : decode cX8_feed 64 = .ok (.getfield 265, 3) := by decide +kernel
theorem dX8_feed_67 : decode cX8_feed 67 = .ok (.iconst 1, 1) := by decide +kernel
theorem dX8_feed_68 : decode cX8_feed 68 = .ok (.iadd, 1) := by decide +kernel
theorem dX8_feed_69 : decode cX8_feed 69 = .ok (.putfield 265, 3) := by decide +kernel
theorem dX8_feed_72 : decode cX8_feed 72 = .ok (.iinc 3 (-1), 3) := by decide +kernel
theorem dX8_feed_75 : decode cX8_feed 75 = .ok (.goto (-36), 3) := by decide +kernel
theorem dX8_feed_78 : decode cX8_feed 78 = .ok (.aload_n 0, 1) := by decide +kernel
theorem dX8_feed_79 : decode cX8_feed 79 = .ok (.getfield 265, 3) := by decide +kernel
theorem dX8_feed_82 : decode cX8_feed 82 = .ok (.ireturn, 1) := by decide +kernel
theorem dX8_wipe_0 : decode cX8_wipe 0 = .ok (.aload_n 0, 1) := by decide +kernel
theorem dX8_wipe_1 : decode cX8_wipe 1 = .ok (.getfield 265, 3) := by decide +kernel
theorem dX8_wipe_4 : decode cX8_wipe 4 = .ok (.istore_n 1, 1) := by decide +kernel
theorem dX8_wipe_5 : decode cX8_wipe 5 = .ok (.aload_n 0, 1) := by decide +kernel
theorem dX8_wipe_6 : decode cX8_wipe 6 = .ok (.iconst 0, 1) := by decide +kernel
theorem dX8_wipe_7 : decode cX8_wipe 7 = .ok (.putfield 265, 3) := by decide +kernel
theorem dX8_wipe_10 : decode cX8_wipe 10 = .ok (.iload_n 1, 1) := by decide +kernel
theorem dX8_wipe_11 : decode cX8_wipe 11 = .ok (.ireturn, 1) := by decide +kernel
set_option maxRecDepth 20000 in
theorem ggX8_isByte_X8_in : GoodIn wsX8_isByte wsX8_in := goodIn_r _ [6] (by decide +kernel) (by decide +kernel)
set_option maxRecDepth 20000 in
theorem gX8_isByte_X8_in : GoodIn wsX8_isByte (va_wsS RX8 58 yX8_in wsX8_in) := goodIn_app (goodIn_of _ (by decide +kernel)) ggX8_isByte_X8_in
theorem dX8_isByte_0 : decode cX8_isByte 0 = .ok (.iload_n 1, 1) := by decide +kernel
theorem dX8_isByte_1 : decode cX8_isByte 1 = .ok (.aload_n 0, 1) := by decide +kernel
theorem dX8_isByte_2 : decode cX8_isByte 2 = .ok (.getfield 265, 3) := by decide +kernel
theorem dX8_isByte_5 : decode cX8_isByte 5 = .ok (.if_icmp .ge 24, 3) := by decide +kernel
theorem dX8_isByte_8 : decode cX8_isByte 8 = .ok (.aload_n 0, 1) := by decide +kernel
theorem dX8_isByte_9 : decode cX8_isByte 9 = .ok (.getfield 36, 3) := by decide +kernel
theorem dX8_isByte_12 : decode cX8_isByte 12 = .ok (.iload_n 1, 1) := by decide +kernel
theorem dX8_isByte_13 : decode cX8_isByte 13 = .ok (.iaload, 1) := by decide +kernel
theorem dX8_isByte_14 : decode cX8_isByte 14 = .ok (.i2l, 1) := by decide +kernel
theorem dX8_isByte_15 : decode cX8_isByte 15 = .ok (.iload_n 2, 1) := by decide +kernel
theorem dX8_isByte_16 : decode cX8_isByte 16 = .ok (.i2l, 1) := by decide +kernel
theorem dX8_isByte_17 : decode cX8_isByte 17 = .ok (.iload_n 3, 1) := by decide +kernel
theorem dX8_isByte_18 : decode cX8_isByte 18 = .ok (.i2l, 1) := by decide +kernel
theorem dX8_isByte_19 : decode cX8_isByte 19 = .ok (.invokestatic 58, 3) := by decide +kernel
theorem dX8_isByte_22 : decode cX8_isByte 22 = .ok (.ifCond .eq 7, 3) := by decide +kernel
theorem dX8_isByte_25 : decode cX8_isByte 25 = .ok (.iconst 1, 1) := by decide +kernel
theorem dX8_isByte_26 : decode cX8_isByte 26 = .ok (.goto 4, 3) := by decide +kernel
theorem dX8_isByte_29 : decode cX8_isByte 29 = .ok (.iconst 0, 1) := by decide +kernel
theorem dX8_isByte_30 : decode cX8_isByte 30 = .ok (.ireturn, 1) := by decide +kernel
set_option maxRecDepth 20000 in
theorem ggX8_next__X8_isByte : GoodIn wsX8_next_ wsX8_isByte := goodIn_r _ [8, 3, 9, 10, 11, 7, 12, 13, 14, 15, 16, 17, 18, 19, 20, 21, 22, 23, 24, 25, 26, 27, 28, 29, 30, 31, 32] (by decide +kernel) (by decide +kernel)
set_option maxRecDepth 20000 in
theorem gX8_next__X8_isByte : GoodIn wsX8_next_ (wsV RX8 274 RX8 yX8_isByte wsX8_isByte) := goodIn_app (goodIn_of _ (by decide +kernel)) ggX8_next__X8_isByte
theorem dX8_next__0 : decode cX8_next_ 0 = .ok (.aload_n 0, 1) := by decide +kernel
theorem dX8_next__1 : decode cX8_next_ 1 = .ok (.aload_n 0, 1) := by decide +kernel
theorem dX8_next__2 : decode cX8_next_ 2 = .ok (.getfield 268, 3) := by decide +kernel
theorem dX8_next__5 : decode cX8_next_ 5 = .ok (.putfield 271, 3) := by decide +kernel
theorem dX8_next__8 : decode cX8_next_ 8 = .ok (.aload_n 0, 1) := by decide +kernel
theorem dX8_next__9 : decode cX8_next_ 9 = .ok (.aload_n 0, 1) := by decide +kernel
theorem dX8_next__10 : decode cX8_next_ 10 = .ok (.getfield 271, 3) := by decide +kernel
theorem dX8_next__13 : decode cX8_next_ 13 = .ok (.bipush 32, 2) := by decide +kernel
theorem dX8_next__15 : decode cX8_next_ 15 = .ok (.bipush 32, 2) := by decide +kernel
theorem dX8_next__17 : decode cX8_next_ 17 = .ok (.invokevirtual 274, 3) := by decide +kernel
theorem dX8_next__20 : decode cX8_next_ 20 = .ok (.ifCond .eq 16, 3) := by decide +kernel
theorem dX8_next__23 : decode cX8_next_ 23 = .ok (.aload_n 0, 1) := by decide +kernel
theorem dX8_next__24 : decode cX8_next_ 24 = .ok (.dup, 1) := by decide +kernel
theorem dX8_next__25 : decode cX8_next_ 25 = .ok (.getfield 271, 3) := by decide +kernel
theorem dX8_next__28 : decode cX8_next_ 28 = .ok (.iconst 1, 1) := by decide +kernel
theorem dX8_next__29 : decode cX8_next_ 29 = .ok (.iadd, 1) := by decide +kernel
theorem dX8_next__30 : decode cX8_next_ 30 = .ok (.putfield 271, 3) := by decide +kernel
theorem dX8_next__33 : decode cX8_next_ 33 = .ok (.goto (-25), 3) := by decide +kernel
theorem dX8_next__36 : decode cX8_next_ 36 = .ok (.aload_n 0, 1) := by decide +kernel
theorem dX8_next__37 : decode cX8_next_ 37 = .ok (.aload_n 0, 1) := by decide +kernel
theorem dX8_next__38 : decode cX8_next_ 38 = .ok (.getfield 271, 3) := by decide +kernel
theorem dX8_next__41 : decode cX8_next_ 41 = .ok (.putfield 268, 3) := by decide +kernel
theorem dX8_next__44 : decode cX8_next_ 44 = .ok (.aload_n 0, 1) := by decide +kernel
theorem dX8_next__45 : decode cX8_next_ 45 = .ok (.aload_n 0, 1) := by decide +kernel
theorem dX8_next__46 : decode cX8_next_ 46 = .ok (.getfield 271, 3) := by decide +kernel
theorem dX8_next__49 : decode cX8_next_ 49 = .ok (.bipush 97, 2) := by decide +kernel
theorem dX8_next__51 : decode cX8_next_ 51 = .ok (.bipush 122, 2) := by decide +kernel
theorem dX8_next__53 : decode cX8_next_ 53 = .ok (.invokevirtual 274, 3) := by decide +kernel
theorem dX8_next__56 : decode cX8_next_ 56 = .ok (.istore_n 1, 1) := by decide +kernel
theorem dX8_next__57 : decode cX8_next_ 57 = .ok (.aload_n 0, 1) := by decide +kernel
theorem dX8_next__58 : decode cX8_next_ 58 = .ok (.aload_n 0, 1) := by decide +kernel
theorem dX8_next__59 : decode cX8_next_ 59 = .ok (.getfield 271, 3) := by decide +kernel
theorem dX8_next__62 : decode cX8_next_ 62 = .ok (.bipush 48, 2) := by decide +kernel
theorem dX8_next__64 : decode cX8_next_ 64 = .ok (.bipush 57, 2) := by decide +kernel
theorem dX8_next__66 : decode cX8_next_ 66 = .ok (.invokevirtual 274, 3) := by decide +kernel
theorem dX8_next__69 : decode cX8_next_ 69 = .ok (.istore_n 2, 1) := by decide +kernel
theorem dX8_next__70 : decode cX8_next_ 70 = .ok (.iload_n 1, 1) := by decide +kernel
theorem dX8_next__71 : decode cX8_next_ 71 = .ok (.ifCond .eq 18, 3) := by decide +kernel
theorem dX8_next__74 : decode cX8_next_ 74 = .ok (.aload_n 0, 1) := by decide +kernel
theorem dX8_next__75 : decode cX8_next_ 75 = .ok (.aload_n 0, 1) := by decide +kernel
theorem dX8_next__76 : decode cX8_next_ 76 = .ok (.getfield 268, 3) := by decide +kernel
theorem dX8_next__79 : decode cX8_next_ 79 = .ok (.bipush 97, 2) := by decide +kernel
theorem dX8_next__81 : decode cX8_next_ 81 = .ok (.bipush 122, 2) := by decide +kernel
theorem dX8_next__83 : decode cX8_next_ 83 = .ok (.invokevirtual 274, 3) := by decide +kernel
theorem dX8_next__86 : decode cX8_next_ 86 = .ok (.ifCond .ne 22, 3) := by decide +kernel
theorem dX8_next__89 : decode cX8_next_ 89 = .ok (.iload_n 2, 1) := by decide +kernel
theorem dX8_next__90 : decode cX8_next_ 90 = .ok (.ifCond .eq 31, 3) := by decide +kernel
theorem dX8_next__93 : decode cX8_next_ 93 = .ok (.aload_n 0, 1) := by decide +kernel
theorem dX8_next__94 : decode cX8_next_ 94 = .ok (.aload_n 0, 1) := by decide +kernel
theorem dX8_next__95 : decode cX8_next_ 95 = .ok (.getfield 268, 3) := by decide +kernel
theorem dX8_next__98 : decode cX8_next_ 98 = .ok (.bipush 48, 2) := by decide +kernel
theorem dX8_next__100 : decode cX8_next_ 100 = .ok (.bipush 57, 2) := by decide +kernel
theorem dX8_next__102 : decode cX8_next_ 102 = .ok (.invokevirtual 274, 3) := by decide +kernel
theorem dX8_next__105 : decode cX8_next_ 105 = .ok (.ifCond .eq 16, 3) := by decide +kernel
theorem dX8_next__108 : decode cX8_next_ 108 = .ok (.aload_n 0, 1) := by decide +kernel
theorem dX8_next__109 : decode cX8_next_ 109 = .ok (.dup, 1) := by decide +kernel
theorem dX8_next__110 : decode cX8_next_ 110 = .ok (.getfield 268, 3) := by decide +kernel
theorem dX8_next__113 : decode cX8_next_ 113 = .ok (.iconst 1, 1) := by decide +kernel
theorem dX8_next__114 : decode cX8_next_ 114 = .ok (.iadd, 1) := by decide +kernel
theorem dX8_next__115 : decode cX8_next_ 115 = .ok (.putfield 268, 3) := by decide +kernel
theorem dX8_next__118 : decode cX8_next_ 118 = .ok (.goto (-48), 3) := by decide +kernel
theorem dX8_next__121 : decode cX8_next_ 121 = .ok (.aload_n 0, 1) := by decide +kernel
theorem dX8_next__122 : decode cX8_next_ 122 = .ok (.dup, 1) := by decide +kernel
theorem dX8_next__123 : decode cX8_next_ 123 = .ok (.getfield 268, 3) := by decide +kernel
theorem dX8_next__126 : decode cX8_next_ 126 = .ok (.iload_n 1, 1) := by decide +kernel
theorem dX8_next__127 : decode cX8_next_ 127 = .ok (.ifCond .ne 22, 3) := by decide +kernel
theorem dX8_next__130 : decode cX8_next_ 130 = .ok (.iload_n 2, 1) := by decide +kernel
theorem dX8_next__131 : decode cX8_next_ 131 = .ok (.ifCond .ne 18, 3) := by decide +kernel
theorem dX8_next__134 : decode cX8_next_ 134 = .ok (.aload_n 0, 1) := by decide +kernel
theorem dX8_next__135 : decode cX8_next_ 135 = .ok (.getfield 271, 3) := by decide +kernel
theorem dX8_next__138 : decode cX8_next_ 138 = .ok (.aload_n 0, 1) := by decide +kernel
theorem dX8_next__139 : decode cX8_next_ 139 = .ok (.getfield 265, 3) := by decide +kernel
theorem dX8_next__142 : decode cX8_next_ 142 = .ok (.if_icmp .ge 7, 3) := by decide +kernel
theorem dX8_next__145 : decode cX8_next_ 145 = .ok (.iconst 1, 1) := by decide +kernel
theorem dX8_next__146 : decode cX8_next_ 146 = .ok (.goto 4, 3) := by decide +kernel
theorem dX8_next__149 : decode cX8_next_ 149 = .ok (.iconst 0, 1) := by decide +kernel
theorem dX8_next__150 : decode cX8_next_ 150 = .ok (.iadd, 1) := by decide +kernel
theorem dX8_next__151 : decode cX8_next_ 151 = .ok (.putfield 268, 3) := by decide +kernel
theorem dX8_next__154 : decode cX8_next_ 154 = .ok (.return_, 1) := by decide +kernel
set_option maxRecDepth 20000 in
theorem ggX8_isWord_J0_length_8abf5 : GoodIn wsX8_isWord wsJ0_length_8abf5 := goodIn_r _ [9, 10, 11, 12, 13, 8, 14, 15, 16] (by decide +kernel) (by decide +kernel)
set_option maxRecDepth 20000 in
theorem gX8_isWord_J0_length_8abf5 : GoodIn wsX8_isWord (wsV RX8 281 RJ0 yJ0_length_8abf5 wsJ0_length_8abf5) := goodIn_app (goodIn_of _ (by decide +kernel)) ggX8_isWord_J0_length_8abf5
set_option maxRecDepth 20000 in
theorem ggX8_isWord_J0_charAt_5068e : GoodIn wsX8_isWord wsJ0_charAt_5068e := goodIn_r _ [20, 10, 21, 22, 23, 8, 24, 15, 16, 25, 26, 27, 28, 29, 30, 31, 32, 33, 34, 35, 36, 37, 38, 39, 40, 41, 42, 43, 44, 45, 46, 47, 48, 49, 50, 51, 52, 53] (by decide +kernel) (by decide +kernel)
set_option maxRecDepth 20000 in
theorem gX8_isWord_J0_charAt_5068e : GoodIn wsX8_isWord (wsV RX8 286 RJ0 yJ0_charAt_5068e wsJ0_charAt_5068e) := goodIn_app (goodIn_of _ (by decide +kernel)) ggX8_isWord_J0_charAt_5068e
theorem dX8_isWord_0 : decode cX8_isWord 0 = .ok (.aload_n 0, 1) := by decide +kernel
theorem dX8_isWord_1 : decode cX8_isWord 1 = .ok (.getfield 277, 3) := by decide +kernel
theorem dX8_isWord_4 : decode cX8_isWord 4 = .ok (.ifCond .ne 23, 3) := by decide +kernel
theorem dX8_isWord_7 : decode cX8_isWord 7 = .ok (.aload_n 0, 1) := by decide +kernel
theorem dX8_isWord_8 : decode cX8_isWord 8 = .ok (.getfield 268, 3) := by decide +kernel
theorem dX8_isWord_11 : decode cX8_isWord 11 = .ok (.aload_n 0, 1) := by decide +kernel
theorem dX8_isWord_12 : decode cX8_isWord 12 = .ok (.getfield 271, 3) := by decide +kernel
theorem dX8_isWord_15 : decode cX8_isWord 15 = .ok (.isub, 1) := by decide +kernel
theorem dX8_isWord_16 : decode cX8_isWord 16 = .ok (.aload_n 1, 1) := by decide +kernel
theorem dX8_isWord_17 : decode cX8_isWord 17 = .ok (.invokevirtual 281, 3) := by decide +kernel
theorem dX8_isWord_20 : decode cX8_isWord 20 = .ok (.if_icmp .ne 7, 3) := by decide +kernel
theorem dX8_isWord_23 : decode cX8_isWord 23 = .ok (.iconst 1, 1) := by decide +kernel
theorem dX8_isWord_24 : decode cX8_isWord 24 = .ok (.goto 4, 3) := by decide +kernel
theorem dX8_isWord_27 : decode cX8_isWord 27 = .ok (.iconst 0, 1) := by decide +kernel
theorem dX8_isWord_28 : decode cX8_isWord 28 = .ok (.istore_n 2, 1) := by decide +kernel
theorem dX8_isWord_29 : decode cX8_isWord 29 = .ok (.iconst 0, 1) := by decide +kernel
theorem dX8_isWord_30 : decode cX8_isWord 30 = .ok (.istore_n 3, 1) := by decide +kernel
theorem dX8_isWord_31 : decode cX8_isWord 31 = .ok (.iload_n 2, 1) := by decide +kernel
theorem dX8_isWord_32 : decode cX8_isWord 32 = .ok (.ifCond .eq 42, 3) := by decide +kernel
theorem dX8_isWord_35 : decode cX8_isWord 35 = .ok (.iload_n 3, 1) := by decide +kernel
theorem dX8_isWord_36 : decode cX8_isWord 36 = .ok (.aload_n 1, 1) := by decide +kernel
theorem dX8_isWord_37 : decode cX8_isWord 37 = .ok (.invokevirtual 281, 3) := by decide +kernel
theorem dX8_isWord_40 : decode cX8_isWord 40 = .ok (.if_icmp .ge 34, 3) := by decide +kernel
theorem dX8_isWord_43 : decode cX8_isWord 43 = .ok (.aload_n 0, 1) := by decide +kernel
theorem dX8_isWord_44 : decode cX8_isWord 44 = .ok (.getfield 36, 3) := by decide +kernel
theorem dX8_isWord_47 : decode cX8_isWord 47 = .ok (.aload_n 0, 1) := by decide +kernel
theorem dX8_isWord_48 : decode cX8_isWord 48 = .ok (.getfield 271, 3) := by decide +kernel
theorem dX8_isWord_51 : decode cX8_isWord 51 = .ok (.iload_n 3, 1) := by decide +kernel
theorem dX8_isWord_52 : decode cX8_isWord 52 = .ok (.iadd, 1) := by decide +kernel
theorem dX8_isWord_53 : decode cX8_isWord 53 = .ok (.iaload, 1) := by decide +kernel
theorem dX8_isWord_54 : decode cX8_isWord 54 = .ok (.aload_n 1, 1) := by decide +kernel
theorem dX8_isWord_55 : decode cX8_isWord 55 = .ok (.iload_n 3, 1) := by decide +kernel
theorem dX8_isWord_56 : decode cX8_isWord 56 = .ok (.invokevirtual 286, 3) := by decide +kernel
theorem dX8_isWord_59 : decode cX8_isWord 59 = .ok (.if_icmp .ne 7, 3) := by decide +kernel
theorem dX8_isWord_62 : decode cX8_isWord 62 = .ok (.iconst 1, 1) := by decide +kernel
theorem dX8_isWord_63 : decode cX8_isWord 63 = .ok (.goto 4, 3) := by decide +kernel
theorem dX8_isWord_66 : decode cX8_isWord 66 = .ok (.iconst 0, 1) := by decide +kernel
theorem dX8_isWord_67 : decode cX8_isWord 67 = .ok (.istore_n 2, 1) := by decide +kernel
theorem dX8_isWord_68 : decode cX8_isWord 68 = .ok (.iinc 3 1, 3) := by decide +kernel
theorem dX8_isWord_71 : decode cX8_isWord 71 = .ok (.goto (-40), 3) := by decide +kernel
theorem dX8_isWord_74 : decode cX8_isWord 74 = .ok (.iload_n 2, 1) := by decide +kernel
theorem dX8_isWord_75 : decode cX8_isWord 75 = .ok (.ireturn, 1) := by decide +kernel
set_option maxRecDepth 20000 in
theorem ggX8_must_X8_next_ : GoodIn wsX8_must wsX8_next_ := goodIn_r _ [6, 7, 8, 9, 10, 11, 12, 5, 13, 14, 15, 16, 17, 18, 19, 20, 21, 22, 23, 24, 25, 26, 27, 28, 29, 30, 31, 32, 33, 34, 35, 36, 37] (by decide +kernel) (by decide +kernel)
set_option maxRecDepth 20000 in
theorem gX8_must_X8_next_ : GoodIn wsX8_must (wsV RX8 290 RX8 yX8_next_ wsX8_next_) := goodIn_app (goodIn_of _ (by decide +kernel)) ggX8_must_X8_next_
theorem dX8_must_0 : decode cX8_must 0 = .ok (.aload_n 0, 1) := by decide +kernel
theorem dX8_must_1 : decode cX8_must 1 = .ok (.aload_n 0, 1) := by decide +kernel
theorem dX8_must_2 : decode cX8_must 2 = .ok (.getfield 277, 3) := by decide +kernel
theorem dX8_must_5 : decode cX8_must 5 = .ok (.ifCond .ne 7, 3) := by decide +kernel
theorem dX8_must_8 : decode cX8_must 8 = .ok (.iload_n 1, 1) := by decide +kernel
theorem dX8_must_9 : decode cX8_must 9 = .ok (.ifCond .ne 7, 3) := by decide +kernel
theorem dX8_must_12 : decode cX8_must 12 = .ok (.iconst 1, 1) := by decide +kernel
theorem dX8_must_13 : decode cX8_must 13 = .ok (.goto 4, 3) := by decide +kernel
theorem dX8_must_16 : decode cX8_must 16 = .ok (.iconst 0, 1) := by decide +kernel
theorem dX8_must_17 : decode cX8_must 17 = .ok (.putfield 277, 3) := by decide +kernel
theorem dX8_must_20 : decode cX8_must 20 = .ok (.aload_n 0, 1) := by decide +kernel
theorem dX8_must_21 : decode cX8_must 21 = .ok (.getfield 277, 3) := by decide +kernel
theorem dX8_must_24 : decode cX8_must 24 = .ok (.ifCond .ne 7, 3) := by decide +kernel
theorem dX8_must_27 : decode cX8_must 27 = .ok (.aload_n 0, 1) := by decide +kernel
theorem dX8_must_28 : decode cX8_must 28 = .ok (.invokevirtual 290, 3) := by decide +kernel
theorem dX8_must_31 : decode cX8_must 31 = .ok (.return_, 1) := by decide +kernel
set_option maxRecDepth 20000 in
theorem ggX8_takes_X8_isWord : GoodIn wsX8_takes wsX8_isWord := goodIn_r _ [5, 6, 7, 8, 9, 10, 11, 12, 13, 14, 15, 16, 17, 18, 19, 20, 21, 22, 23, 24, 25, 26, 27, 28, 29, 30, 31, 32, 33, 34, 35, 36, 37, 38, 39, 40, 41, 42, 43, 44, 45, 46, 47, 48, 49, 50, 51, 52, 53, 54, 55, 56, 57, 58, 71, 72, 73, 74, 75, 76, 77, 78, 79, 80, 81, 82, 83, 84, 85, 86, 87, 88, 89, 90] (by decide +kernel) (by decide +kernel)
set_option maxRecDepth 20000 in
theorem gX8_takes_X8_isWord : GoodIn wsX8_takes (wsV RX8 293 RX8 yX8_isWord wsX8_isWord) := goodIn_app (goodIn_of _ (by decide +kernel)) ggX8_takes_X8_isWord
set_option maxRecDepth 20000 in
theorem ggX8_takes_X8_next_ : GoodIn wsX8_takes wsX8_next_ := goodIn_r _ [62, 7, 8, 63, 64, 65, 66, 4, 67, 9, 68, 69, 70, 71, 72, 73, 74, 75, 76, 77, 78, 79, 80, 81, 82, 83, 84, 85, 86, 87, 88, 89, 90] (by decide +kernel) (by decide +kernel)
set_option maxRecDepth 20000 in
theorem gX8_takes_X8_next_ : GoodIn wsX8_takes (wsV RX8 290 RX8 yX8_next_ wsX8_next_) := goodIn_app (goodIn_of _ (by decide +kernel)) ggX8_takes_X8_next_
theorem dX8_takes_0 : decode cX8_takes 0 = .ok (.aload_n 0, 1) := by decide +kernel
theorem dX8_takes_1 : decode cX8_takes 1 = .ok (.aload_n 1, 1) := by decide +kernel
theorem dX8_takes_2 : decode cX8_takes 2 = .ok (.invokevirtual 293, 3) := by decide +kernel
theorem dX8_takes_5 : decode cX8_takes 5 = .ok (.istore_n 2, 1) := by decide +kernel
theorem dX8_takes_6 : decode cX8_takes 6 = .ok (.iload_n 2, 1) := by decide +kernel
theorem dX8_takes_7 : decode cX8_takes 7 = .ok (.ifCond .eq 7, 3) := by decide +kernel
theorem dX8_takes_10 : decode cX8_takes 10 = .ok (.aload_n 0, 1) := by decide +kernel
theorem dX8_takes_11 : decode cX8_takes 11 = .ok (.invokevirtual 290, 3) := by decide +kernel
theorem dX8_takes_14 : decode cX8_takes 14 = .ok (.iload_n 2, 1) := by decide +kernel
theorem dX8_takes_15 : decode cX8_takes 15 = .ok (.ireturn, 1) := by decide +kernel
set_option maxRecDepth 20000 in
theorem ggX8_numberRead_X8_isByte : GoodIn wsX8_numberRead wsX8_isByte := goodIn_r _ [8, 9, 3, 10, 11, 7, 12, 22, 23, 24, 25, 26, 27, 28, 29, 30, 31, 32, 33, 34, 35, 36, 37, 38, 39, 40, 41] (by decide +kernel) (by decide +kernel)
set_option maxRecDepth 20000 in
theorem gX8_numberRead_X8_isByte : GoodIn wsX8_numberRead (wsV RX8 274 RX8 yX8_isByte wsX8_isByte) := goodIn_app (goodIn_of _ (by decide +kernel)) ggX8_numberRead_X8_isByte
set_option maxRecDepth 20000 in
theorem ggX8_numberRead_X8_in : GoodIn wsX8_numberRead wsX8_in := goodIn_r _ [12] (by decide +kernel) (by decide +kernel)
set_option maxRecDepth 20000 in
theorem gX8_numberRead_X8_in : GoodIn wsX8_numberRead (va_wsS RX8 58 yX8_in wsX8_in) := goodIn_app (goodIn_of _ (by decide +kernel)) ggX8_numberRead_X8_in
set_option maxRecDepth 20000 in
theorem ggX8_numberRead_X8_must : GoodIn wsX8_numberRead wsX8_must := goodIn_r _ [16, 17, 18, 19, 20, 7, 21, 2, 1, 9, 4, 5, 6, 8, 3, 10, 11, 12, 22, 23, 24, 25, 26, 27, 28, 29, 30, 31, 32, 33, 34, 35, 36, 37, 38, 39, 40, 41] (by decide +kernel) (by decide +kernel)
set_option maxRecDepth 20000 in
theorem gX8_numberRead_X8_must : GoodIn wsX8_numberRead (wsV RX8 297 RX8 yX8_must wsX8_must) := goodIn_app (goodIn_of _ (by decide +kernel)) ggX8_numberRead_X8_must
theorem dX8_numberRead_0 : decode cX8_numberRead 0 = .ok (.aload_n 0, 1) := by decide +kernel
theorem dX8_numberRead_1 : decode cX8_numberRead 1 = .ok (.aload_n 0, 1) := by decide +kernel
theorem dX8_numberRead_2 : decode cX8_numberRead 2 = .ok (.getfield 271, 3) := by decide +kernel
theorem dX8_numberRead_5 : decode cX8_numberRead 5 = .ok (.bipush 48, 2) := by decide +kernel
theorem dX8_numberRead_7 : decode cX8_numberRead 7 = .ok (.bipush 57, 2) := by decide +kernel
theorem dX8_numberRead_9 : decode cX8_numberRead 9 = .ok (.invokevirtual 274, 3) := by decide +kernel
theorem dX8_numberRead_12 : decode cX8_numberRead 12 = .ok (.ifCond .eq 7, 3) := by decide +kernel
theorem dX8_numberRead_15 : decode cX8_numberRead 15 = .ok (.iconst 0, 1) := by decide +kernel
theorem dX8_numberRead_16 : decode cX8_numberRead 16 = .ok (.goto 4, 3) := by decide +kernel
theorem dX8_numberRead_19 : decode cX8_numberRead 19 = .ok (.iconst (-1), 1) := by decide +kernel
theorem dX8_numberRead_20 : decode cX8_numberRead 20 = .ok (.istore_n 3, 1) := by decide +kernel
theorem dX8_numberRead_21 : decode cX8_numberRead 21 = .ok (.aload_n 0, 1) := by decide +kernel
theorem dX8_numberRead_22 : decode cX8_numberRead 22 = .ok (.getfield 271, 3) := by decide +kernel
theorem dX8_numberRead_25 : decode cX8_numberRead 25 = .ok (.istore 4, 2) := by decide +kernel
theorem dX8_numberRead_27 : decode cX8_numberRead 27 = .ok (.iload 4, 2) := by decide +kernel
theorem dX8_numberRead_29 : decode cX8_numberRead 29 = .ok (.aload_n 0, 1) := by decide +kernel
theorem dX8_numberRead_30 : decode cX8_numberRead 30 = .ok (.getfield 268, 3) := by decide +kernel
theorem dX8_numberRead_33 : decode cX8_numberRead 33 = .ok (.if_icmp .ge 40, 3) := by decide +kernel
theorem dX8_numberRead_36 : decode cX8_numberRead 36 = .ok (.iload_n 3, 1) := by decide +kernel
theorem dX8_numberRead_37 : decode cX8_numberRead 37 = .ok (.ifCond .lt 36, 3) := by decide +kernel
theorem dX8_numberRead_40 : decode cX8_numberRead 40 = .ok (.iload_n 3, 1) := by decide +kernel
theorem dX8_numberRead_41 : decode cX8_numberRead 41 = .ok (.sipush 999, 3) := by decide +kernel
theorem dX8_numberRead_44 : decode cX8_numberRead 44 = .ok (.if_icmp .le 7, 3) := by decide +kernel
theorem dX8_numberRead_47 : decode cX8_numberRead 47 = .ok (.iload_n 3, 1) := by decide +kernel
theorem dX8_numberRead_48 : decode cX8_numberRead 48 = .ok (.goto 18, 3) := by decide +kernel
theorem dX8_numberRead_51 : decode cX8_numberRead 51 = .ok (.bipush 10, 2) := by decide +kernel
theorem dX8_numberRead_53 : decode cX8_numberRead 53 = .ok (.iload_n 3, 1) := by decide +kernel
theorem dX8_numberRead_54 : decode cX8_numberRead 54 = .ok (.imul, 1) := by decide +kernel
theorem dX8_numberRead_55 : decode cX8_numberRead 55 = .ok (.aload_n 0, 1) := by decide +kernel
theorem dX8_numberRead_56 : decode cX8_numberRead 56 = .ok (.getfield 36, 3) := by decide +kernel
theorem dX8_numberRead_59 : decode cX8_numberRead 59 = .ok (.iload 4, 2) := by decide +kernel
theorem dX8_numberRead_61 : decode cX8_numberRead 61 = .ok (.iaload, 1) := by decide +kernel
theorem dX8_numberRead_62 : decode cX8_numberRead 62 = .ok (.iadd, 1) := by decide +kernel
theorem dX8_numberRead_63 : decode cX8_numberRead 63 = .ok (.bipush 48, 2) := by decide +kernel
theorem dX8_numberRead_65 : decode cX8_numberRead 65 = .ok (.isub, 1) := by decide +kernel
theorem dX8_numberRead_66 : decode cX8_numberRead 66 = .ok (.istore_n 3, 1) := by decide +kernel
theorem dX8_numberRead_67 : decode cX8_numberRead 67 = .ok (.iinc 4 1, 3) := by decide +kernel
theorem dX8_numberRead_70 : decode cX8_numberRead 70 = .ok (.goto (-43), 3) := by decide +kernel
theorem dX8_numberRead_73 : decode cX8_numberRead 73 = .ok (.aload_n 0, 1) := by decide +kernel
theorem dX8_numberRead_74 : decode cX8_numberRead 74 = .ok (.iload_n 3, 1) := by decide +kernel
theorem dX8_numberRead_75 : decode cX8_numberRead 75 = .ok (.i2l, 1) := by decide +kernel
theorem dX8_numberRead_76 : decode cX8_numberRead 76 = .ok (.iload_n 1, 1) := by decide +kernel
theorem dX8_numberRead_77 : decode cX8_numberRead 77 = .ok (.i2l, 1) := by decide +kernel
theorem dX8_numberRead_78 : decode cX8_numberRead 78 = .ok (.iload_n 2, 1) := by decide +kernel
theorem dX8_numberRead_79 : decode cX8_numberRead 79 = .ok (.i2l, 1) := by decide +kernel
theorem dX8_numberRead_80 : decode cX8_numberRead 80 = .ok (.invokestatic 58, 3) := by decide +kernel
theorem dX8_numberRead_83 : decode cX8_numberRead 83 = .ok (.invokevirtual 297, 3) := by decide +kernel
theorem dX8_numberRead_86 : decode cX8_numberRead 86 = .ok (.iload_n 3, 1) := by decide +kernel
theorem dX8_numberRead_87 : decode cX8_numberRead 87 = .ok (.ireturn, 1) := by decide +kernel
set_option maxRecDepth 20000 in
theorem ggX8_kindHere_X8_isWord : GoodIn wsX8_kindHere wsX8_isWord := goodIn_r _ [5, 6, 7, 8, 9, 10, 11, 12, 13, 14, 15, 16, 17, 18, 19, 20, 21, 22, 23, 24, 25, 26, 27, 28, 29, 30, 31, 32, 33, 34, 35, 36, 37, 38, 39, 40, 41, 42, 43, 44, 45, 46, 47, 48, 49, 50, 51, 52, 53, 54, 55, 56, 57, 58, 59, 60, 61, 62, 63, 64, 65, 66, 67, 68, 69, 70, 71, 72, 73, 74, 75, 76, 77, 78] (by decide +kernel) (by decide +kernel)
set_option maxRecDepth 20000 in
theorem gX8_kindHere_X8_isWord : GoodIn wsX8_kindHere (wsV RX8 293 RX8 yX8_isWord wsX8_isWord) := goodIn_app (goodIn_of _ (by decide +kernel)) ggX8_kindHere_X8_isWord
theorem dX8_kindHere_0 : decode cX8_kindHere 0 = .ok (.aload_n 0, 1) := by decide +kernel
theorem dX8_kindHere_1 : decode cX8_kindHere 1 = .ok (.ldc_w 300, 3) := by decide +kernel
theorem dX8_kindHere_4 : decode cX8_kindHere 4 = .ok (.invokevirtual 293, 3) := by decide +kernel
theorem dX8_kindHere_7 : decode cX8_kindHere 7 = .ok (.ifCond .eq 7, 3) := by decide +kernel
theorem dX8_kindHere_10 : decode cX8_kindHere 10 = .ok (.iconst 0, 1) := by decide +kernel
theorem dX8_kindHere_11 : decode cX8_kindHere 11 = .ok (.goto 32, 3) := by decide +kernel
theorem dX8_kindHere_14 : decode cX8_kindHere 14 = .ok (.aload_n 0, 1) := by decide +kernel
theorem dX8_kindHere_15 : decode cX8_kindHere 15 = .ok (.ldc_w 302, 3) := by decide +kernel
theorem dX8_kindHere_18 : decode cX8_kindHere 18 = .ok (.invokevirtual 293, 3) := by decide +kernel
theorem dX8_kindHere_21 : decode cX8_kindHere 21 = .ok (.ifCond .eq 7, 3) := by decide +kernel
theorem dX8_kindHere_24 : decode cX8_kindHere 24 = .ok (.iconst 1, 1) := by decide +kernel
theorem dX8_kindHere_25 : decode cX8_kindHere 25 = .ok (.goto 18, 3) := by decide +kernel
theorem dX8_kindHere_28 : decode cX8_kindHere 28 = .ok (.aload_n 0, 1) := by decide +kernel
theorem dX8_kindHere_29 : decode cX8_kindHere 29 = .ok (.ldc_w 304, 3) := by decide +kernel
theorem dX8_kindHere_32 : decode cX8_kindHere 32 = .ok (.invokevirtual 293, 3) := by decide +kernel
theorem dX8_kindHere_35 : decode cX8_kindHere 35 = .ok (.ifCond .eq 7, 3) := by decide +kernel
theorem dX8_kindHere_38 : decode cX8_kindHere 38 = .ok (.iconst 2, 1) := by decide +kernel
theorem dX8_kindHere_39 : decode cX8_kindHere 39 = .ok (.goto 4, 3) := by decide +kernel
theorem dX8_kindHere_42 : decode cX8_kindHere 42 = .ok (.iconst (-1), 1) := by decide +kernel
theorem dX8_kindHere_43 : decode cX8_kindHere 43 = .ok (.istore_n 1, 1) := by decide +kernel
theorem dX8_kindHere_44 : decode cX8_kindHere 44 = .ok (.aload_n 0, 1) := by decide +kernel
theorem dX8_kindHere_45 : decode cX8_kindHere 45 = .ok (.ldc_w 306, 3) := by decide +kernel
theorem dX8_kindHere_48 : decode cX8_kindHere 48 = .ok (.invokevirtual 293, 3) := by decide +kernel
theorem dX8_kindHere_51 : decode cX8_kindHere 51 = .ok (.ifCond .eq 7, 3) := by decide +kernel
theorem dX8_kindHere_54 : decode cX8_kindHere 54 = .ok (.iconst 3, 1) := by decide +kernel
theorem dX8_kindHere_55 : decode cX8_kindHere 55 = .ok (.goto 32, 3) := by decide +kernel
theorem dX8_kindHere_58 : decode cX8_kindHere 58 = .ok (.aload_n 0, 1) := by decide +kernel
theorem dX8_kindHere_59 : decode cX8_kindHere 59 = .ok (.ldc_w 308, 3) := by decide +kernel
theorem dX8_kindHere_62 : decode cX8_kindHere 62 = .ok (.invokevirtual 293, 3) := by decide +kernel
theorem dX8_kindHere_65 : decode cX8_kindHere 65 = .ok (.ifCond .eq 7, 3) := by decide +kernel
theorem dX8_kindHere_68 : decode cX8_kindHere 68 = .ok (.iconst 4, 1) := by decide +kernel
theorem dX8_kindHere_69 : decode cX8_kindHere 69 = .ok (.goto 18, 3) := by decide +kernel
theorem dX8_kindHere_72 : decode cX8_kindHere 72 = .ok (.aload_n 0, 1) := by decide +kernel
theorem dX8_kindHere_73 : decode cX8_kindHere 73 = .ok (.ldc_w 310, 3) := by decide +kernel
theorem dX8_kindHere_76 : decode cX8_kindHere 76 = .ok (.invokevirtual 293, 3) := by decide +kernel
theorem dX8_kindHere_79 : decode cX8_kindHere 79 = .ok (.ifCond .eq 7, 3) := by decide +kernel
theorem dX8_kindHere_82 : decode cX8_kindHere 82 = .ok (.iconst 5, 1) := by decide +kernel
theorem dX8_kindHere_83 : decode cX8_kindHere 83 = .ok (.goto 4, 3) := by decide +kernel
theorem dX8_kindHere_86 : decode cX8_kindHere 86 = .ok (.iconst (-1), 1) := by decide +kernel
theorem dX8_kindHere_87 : decode cX8_kindHere 87 = .ok (.istore_n 2, 1) := by decide +kernel
theorem dX8_kindHere_88 : decode cX8_kindHere 88 = .ok (.iload_n 1, 1) := by decide +kernel
theorem dX8_kindHere_89 : decode cX8_kindHere 89 = .ok (.ifCond .lt 7, 3) := by decide +kernel
theorem dX8_kindHere_92 : decode cX8_kindHere 92 = .ok (.iload_n 1, 1) := by decide +kernel
theorem dX8_kindHere_93 : decode cX8_kindHere 93 = .ok (.goto 27, 3) := by decide +kernel
theorem dX8_kindHere_96 : decode cX8_kindHere 96 = .ok (.iload_n 2, 1) := by decide +kernel
theorem dX8_kindHere_97 : decode cX8_kindHere 97 = .ok (.ifCond .lt 7, 3) := by decide +kernel
theorem dX8_kindHere_100 : decode cX8_kindHere 100 = .ok (.iload_n 2, 1) := by decide +kernel
theorem dX8_kindHere_101 : decode cX8_kindHere 101 = .ok (.goto 19, 3) := by decide +kernel
theorem dX8_kindHere_104 : decode cX8_kindHere 104 = .ok (.aload_n 0, 1) := by decide +kernel
theorem dX8_kindHere_105 : decode cX8_kindHere 105 = .ok (.ldc_w 312, 3) := by decide +kernel
theorem dX8_kindHere_108 : decode cX8_kindHere 108 = .ok (.invokevirtual 293, 3) := by decide +kernel
theorem dX8_kindHere_111 : decode cX8_kindHere 111 = .ok (.ifCond .eq 8, 3) := by decide +kernel
theorem dX8_kindHere_114 : decode cX8_kindHere 114 = .ok (.bipush 6, 2) := by decide +kernel
theorem dX8_kindHere_116 : decode cX8_kindHere 116 = .ok (.goto 4, 3) := by decide +kernel
theorem dX8_kindHere_119 : decode cX8_kindHere 119 = .ok (.iconst (-1), 1) := by decide +kernel
theorem dX8_kindHere_120 : decode cX8_kindHere 120 = .ok (.ireturn, 1) := by decide +kernel
