set_option maxRecDepth 20000 in
theorem ggX8_batherTold_X8_must : GoodIn wsX8_batherTold wsX8_must := goodIn_r _ [7, 2, 8, 9, 10, 6, 11, 12, 13, 14, 15, 16, 17, 18, 19, 20, 21, 22, 92, 93, 94, 95, 96, 97, 98, 99, 100, 101, 102, 103, 104, 105, 106, 107, 108, 109, 110, 111] (by decide +kernel) (by decide +kernel)
set_option maxRecDepth 20000 in
theorem gX8_batherTold_X8_must : GoodIn wsX8_batherTold (wsV RX8 297 RX8 yX8_must wsX8_must) := goodIn_app (goodIn_of _ (by decide +kernel)) ggX8_batherTold_X8_must
set_option maxRecDepth 20000 in
theorem ggX8_batherTold_X8_adds : GoodIn wsX8_batherTold wsX8_adds := goodIn_r _ [26, 1, 27, 28, 29, 6, 30, 92, 93, 94, 95, 96, 97, 98, 99, 100, 101, 102, 103, 104, 105, 106, 107, 108, 109, 110, 111] (by decide +kernel) (by decide +kernel)
set_option maxRecDepth 20000 in
theorem gX8_batherTold_X8_adds : GoodIn wsX8_batherTold (wsV RX8 148 RX8 yX8_adds wsX8_adds) := goodIn_app (goodIn_of _ (by decide +kernel)) ggX8_batherTold_X8_adds
set_option maxRecDepth 20000 in
theorem ggX8_batherTold_X8_takes : GoodIn wsX8_batherTold wsX8_takes := goodIn_r _ [34, 35, 36, 37, 6, 38, 2, 12, 13, 19, 39, 40, 41, 42, 43, 44, 45, 46, 47, 48, 49, 50, 51, 52, 53, 54, 55, 56, 57, 58, 59, 60, 61, 62, 63, 64, 65, 66, 67, 68, 69, 70, 71, 72, 73, 74, 75, 76, 77, 78, 79, 80, 81, 82, 83, 84, 85, 86, 87, 8, 9, 10, 11, 14, 15, 16, 17, 18, 20, 21, 22, 92, 93, 94, 95, 96, 97, 98, 99, 100, 101, 102, 103, 104, 105, 106, 107, 108, 109, 110, 111] (by decide +kernel) (by decide +kernel)
set_option maxRecDepth 20000 in
theorem gX8_batherTold_X8_takes : GoodIn wsX8_batherTold (wsV RX8 315 RX8 yX8_takes wsX8_takes) := goodIn_app (goodIn_of _ (by decide +kernel)) ggX8_batherTold_X8_takes
set_option maxRecDepth 20000 in
theorem ggX8_batherTold_X8_numberRead : GoodIn wsX8_batherTold wsX8_numberRead := goodIn_r _ [91, 13, 12, 19, 15, 16, 17, 6, 18, 14, 20, 21, 22, 3, 4, 5, 7, 2, 8, 9, 10, 11, 92, 93, 94, 95, 96, 97, 98, 99, 100, 101, 102, 103, 104, 105, 106, 107, 108, 109, 110, 111] (by decide +kernel) (by decide +kernel)
set_option maxRecDepth 20000 in
theorem gX8_batherTold_X8_numberRead : GoodIn wsX8_batherTold (wsV RX8 318 RX8 yX8_numberRead wsX8_numberRead) := goodIn_app (goodIn_of _ (by decide +kernel)) ggX8_batherTold_X8_numberRead
set_option maxRecDepth 20000 in
theorem ggX8_batherTold_X8_sets : GoodIn wsX8_batherTold wsX8_sets := goodIn_r _ [30, 1, 92, 93, 94, 95, 96, 97, 98, 99, 100, 101, 102, 103, 104, 105, 106, 107, 108, 109, 110, 111] (by decide +kernel) (by decide +kernel)
set_option maxRecDepth 20000 in
theorem gX8_batherTold_X8_sets : GoodIn wsX8_batherTold (wsV RX8 141 RX8 yX8_sets wsX8_sets) := goodIn_app (goodIn_of _ (by decide +kernel)) ggX8_batherTold_X8_sets
theorem dX8_batherTold_0 : decode cX8_batherTold 0 = .ok (.aload_n 0, 1) := by decide +kernel
theorem dX8_batherTold_1 : decode cX8_batherTold 1 = .ok (.aload_n 0, 1) := by decide +kernel
theorem dX8_batherTold_2 : decode cX8_batherTold 2 = .ok (.getfield 9, 3) := by decide +kernel
theorem dX8_batherTold_5 : decode cX8_batherTold 5 = .ok (.iconst 1, 1) := by decide +kernel
theorem dX8_batherTold_6 : decode cX8_batherTold 6 = .ok (.iaload, 1) := by decide +kernel
theorem dX8_batherTold_7 : decode cX8_batherTold 7 = .ok (.bipush 8, 2) := by decide +kernel
theorem dX8_batherTold_9 : decode cX8_batherTold 9 = .ok (.if_icmp .ge 7, 3) := by decide +kernel
theorem dX8_batherTold_12 : decode cX8_batherTold 12 = .ok (.iconst 1, 1) := by decide +kernel
theorem dX8_batherTold_13 : decode cX8_batherTold 13 = .ok (.goto 4, 3) := by decide +kernel
theorem dX8_batherTold_16 : decode cX8_batherTold 16 = .ok (.iconst 0, 1) := by decide +kernel
theorem dX8_batherTold_17 : decode cX8_batherTold 17 = .ok (.invokevirtual 297, 3) := by decide +kernel
theorem dX8_batherTold_20 : decode cX8_batherTold 20 = .ok (.aload_n 0, 1) := by decide +kernel
theorem dX8_batherTold_21 : decode cX8_batherTold 21 = .ok (.getfield 277, 3) := by decide +kernel
theorem dX8_batherTold_24 : decode cX8_batherTold 24 = .ok (.ifCond .eq 4, 3) := by decide +kernel
theorem dX8_batherTold_27 : decode cX8_batherTold 27 = .ok (.return_, 1) := by decide +kernel
theorem dX8_batherTold_28 : decode cX8_batherTold 28 = .ok (.aload_n 0, 1) := by decide +kernel
theorem dX8_batherTold_29 : decode cX8_batherTold 29 = .ok (.iload_n 1, 1) := by decide +kernel
theorem dX8_batherTold_30 : decode cX8_batherTold 30 = .ok (.iconst 0, 1) := by decide +kernel
theorem dX8_batherTold_31 : decode cX8_batherTold 31 = .ok (.invokevirtual 148, 3) := by decide +kernel
theorem dX8_batherTold_34 : decode cX8_batherTold 34 = .ok (.istore_n 2, 1) := by decide +kernel
theorem dX8_batherTold_35 : decode cX8_batherTold 35 = .ok (.aload_n 0, 1) := by decide +kernel
theorem dX8_batherTold_36 : decode cX8_batherTold 36 = .ok (.ldc_w 313, 3) := by decide +kernel
theorem dX8_batherTold_39 : decode cX8_batherTold 39 = .ok (.invokevirtual 315, 3) := by decide +kernel
theorem dX8_batherTold_42 : decode cX8_batherTold 42 = .ok (.ifCond .eq 16, 3) := by decide +kernel
theorem dX8_batherTold_45 : decode cX8_batherTold 45 = .ok (.aload_n 0, 1) := by decide +kernel
theorem dX8_batherTold_46 : decode cX8_batherTold 46 = .ok (.iload_n 2, 1) := by decide +kernel
theorem dX8_batherTold_47 : decode cX8_batherTold 47 = .ok (.iconst 1, 1) := by decide +kernel
theorem dX8_batherTold_48 : decode cX8_batherTold 48 = .ok (.aload_n 0, 1) := by decide +kernel
theorem dX8_batherTold_49 : decode cX8_batherTold 49 = .ok (.iconst 0, 1) := by decide +kernel
theorem dX8_batherTold_50 : decode cX8_batherTold 50 = .ok (.bipush 47, 2) := by decide +kernel
theorem dX8_batherTold_52 : decode cX8_batherTold 52 = .ok (.invokevirtual 318, 3) := by decide +kernel
theorem dX8_batherTold_55 : decode cX8_batherTold 55 = .ok (.invokevirtual 141, 3) := by decide +kernel
theorem dX8_batherTold_58 : decode cX8_batherTold 58 = .ok (.aload_n 0, 1) := by decide +kernel
theorem dX8_batherTold_59 : decode cX8_batherTold 59 = .ok (.ldc_w 321, 3) := by decide +kernel
theorem dX8_batherTold_62 : decode cX8_batherTold 62 = .ok (.invokevirtual 315, 3) := by decide +kernel
theorem dX8_batherTold_65 : decode cX8_batherTold 65 = .ok (.ifCond .eq 15, 3) := by decide +kernel
theorem dX8_batherTold_68 : decode cX8_batherTold 68 = .ok (.aload_n 0, 1) := by decide +kernel
theorem dX8_batherTold_69 : decode cX8_batherTold 69 = .ok (.iload_n 2, 1) := by decide +kernel
theorem dX8_batherTold_70 : decode cX8_batherTold 70 = .ok (.iconst 2, 1) := by decide +kernel
theorem dX8_batherTold_71 : decode cX8_batherTold 71 = .ok (.aload_n 0, 1) := by decide +kernel
theorem dX8_batherTold_72 : decode cX8_batherTold 72 = .ok (.iconst 0, 1) := by decide +kernel
theorem dX8_batherTold_73 : decode cX8_batherTold 73 = .ok (.iconst 1, 1) := by decide +kernel
theorem dX8_batherTold_74 : decode cX8_batherTold 74 = .ok (.invokevirtual 318, 3) := by decide +kernel
theorem dX8_batherTold_77 : decode cX8_batherTold 77 = .ok (.invokevirtual 141, 3) := by decide +kernel
theorem dX8_batherTold_80 : decode cX8_batherTold 80 = .ok (.aload_n 0, 1) := by decide +kernel
theorem dX8_batherTold_81 : decode cX8_batherTold 81 = .ok (.ldc_w 323, 3) := by decide +kernel
theorem dX8_batherTold_84 : decode cX8_batherTold 84 = .ok (.invokevirtual 315, 3) := by decide +kernel
theorem dX8_batherTold_87 : decode cX8_batherTold 87 = .ok (.ifCond .eq 16, 3) := by decide +kernel
theorem dX8_batherTold_90 : decode cX8_batherTold 90 = .ok (.aload_n 0, 1) := by decide +kernel
theorem dX8_batherTold_91 : decode cX8_batherTold 91 = .ok (.iload_n 2, 1) := by decide +kernel
theorem dX8_batherTold_92 : decode cX8_batherTold 92 = .ok (.iconst 3, 1) := by decide +kernel
theorem dX8_batherTold_93 : decode cX8_batherTold 93 = .ok (.aload_n 0, 1) := by decide +kernel
theorem dX8_batherTold_94 : decode cX8_batherTold 94 = .ok (.iconst 0, 1) := by decide +kernel
theorem dX8_batherTold_95 : decode cX8_batherTold 95 = .ok (.bipush 99, 2) := by decide +kernel
theorem dX8_batherTold_97 : decode cX8_batherTold 97 = .ok (.invokevirtual 318, 3) := by decide +kernel
theorem dX8_batherTold_100 : decode cX8_batherTold 100 = .ok (.invokevirtual 141, 3) := by decide +kernel
theorem dX8_batherTold_103 : decode cX8_batherTold 103 = .ok (.return_, 1) := by decide +kernel
set_option maxRecDepth 20000 in
theorem ggX8_cellTold_X8_numberRead : GoodIn wsX8_cellTold wsX8_numberRead := goodIn_r _ [7, 8, 9, 10, 11, 12, 13, 6, 14, 15, 16, 17, 18, 19, 20, 21, 22, 1, 23, 24, 25, 26, 27, 28, 29, 30, 31, 32, 33, 34, 35, 36, 37, 38, 39, 40, 41, 42, 43, 44, 45, 46] (by decide +kernel) (by decide +kernel)
set_option maxRecDepth 20000 in
theorem gX8_cellTold_X8_numberRead : GoodIn wsX8_cellTold (wsV RX8 318 RX8 yX8_numberRead wsX8_numberRead) := goodIn_app (goodIn_of _ (by decide +kernel)) ggX8_cellTold_X8_numberRead
theorem dX8_cellTold_0 : decode cX8_cellTold 0 = .ok (.aload_n 0, 1) := by decide +kernel
theorem dX8_cellTold_1 : decode cX8_cellTold 1 = .ok (.iconst 0, 1) := by decide +kernel
theorem dX8_cellTold_2 : decode cX8_cellTold 2 = .ok (.bipush 47, 2) := by decide +kernel
theorem dX8_cellTold_4 : decode cX8_cellTold 4 = .ok (.invokevirtual 318, 3) := by decide +kernel
theorem dX8_cellTold_7 : decode cX8_cellTold 7 = .ok (.istore_n 3, 1) := by decide +kernel
theorem dX8_cellTold_8 : decode cX8_cellTold 8 = .ok (.aload_n 0, 1) := by decide +kernel
theorem dX8_cellTold_9 : decode cX8_cellTold 9 = .ok (.iconst 0, 1) := by decide +kernel
theorem dX8_cellTold_10 : decode cX8_cellTold 10 = .ok (.iload_n 2, 1) := by decide +kernel
theorem dX8_cellTold_11 : decode cX8_cellTold 11 = .ok (.invokevirtual 318, 3) := by decide +kernel
theorem dX8_cellTold_14 : decode cX8_cellTold 14 = .ok (.istore 4, 2) := by decide +kernel
theorem dX8_cellTold_16 : decode cX8_cellTold 16 = .ok (.aload_n 0, 1) := by decide +kernel
theorem dX8_cellTold_17 : decode cX8_cellTold 17 = .ok (.getfield 277, 3) := by decide +kernel
theorem dX8_cellTold_20 : decode cX8_cellTold 20 = .ok (.ifCond .ne 13, 3) := by decide +kernel
theorem dX8_cellTold_23 : decode cX8_cellTold 23 = .ok (.aload_n 0, 1) := by decide +kernel
theorem dX8_cellTold_24 : decode cX8_cellTold 24 = .ok (.getfield 9, 3) := by decide +kernel
theorem dX8_cellTold_27 : decode cX8_cellTold 27 = .ok (.iload_n 1, 1) := by decide +kernel
theorem dX8_cellTold_28 : decode cX8_cellTold 28 = .ok (.iload_n 3, 1) := by decide +kernel
theorem dX8_cellTold_29 : decode cX8_cellTold 29 = .ok (.iadd, 1) := by decide +kernel
theorem dX8_cellTold_30 : decode cX8_cellTold 30 = .ok (.iload 4, 2) := by decide +kernel
theorem dX8_cellTold_32 : decode cX8_cellTold 32 = .ok (.iastore, 1) := by decide +kernel
theorem dX8_cellTold_33 : decode cX8_cellTold 33 = .ok (.return_, 1) := by decide +kernel
set_option maxRecDepth 20000 in
theorem ggX8_guardTold_X8_numberRead : GoodIn wsX8_guardTold wsX8_numberRead := goodIn_r _ [7, 8, 9, 10, 11, 12, 13, 6, 14, 15, 16, 17, 18, 19, 20, 21, 22, 1, 23, 24, 25, 26, 84, 85, 86, 87, 88, 89, 90, 91, 92, 93, 94, 95, 96, 97, 98, 99, 100, 101, 102, 103] (by decide +kernel) (by decide +kernel)
set_option maxRecDepth 20000 in
theorem gX8_guardTold_X8_numberRead : GoodIn wsX8_guardTold (wsV RX8 318 RX8 yX8_numberRead wsX8_numberRead) := goodIn_app (goodIn_of _ (by decide +kernel)) ggX8_guardTold_X8_numberRead
set_option maxRecDepth 20000 in
theorem ggX8_guardTold_X8_takes : GoodIn wsX8_guardTold wsX8_takes := goodIn_r _ [30, 31, 32, 33, 6, 34, 1, 9, 8, 10, 35, 36, 37, 38, 39, 40, 41, 42, 43, 44, 45, 46, 47, 48, 49, 50, 51, 52, 53, 54, 55, 56, 57, 58, 59, 60, 61, 62, 63, 64, 65, 66, 67, 68, 69, 70, 71, 72, 73, 74, 75, 76, 77, 78, 79, 80, 81, 82, 83, 23, 24, 25, 26, 15, 11, 12, 13, 14, 16, 17, 18, 84, 85, 86, 87, 88, 89, 90, 91, 92, 93, 94, 95, 96, 97, 98, 99, 100, 101, 102, 103] (by decide +kernel) (by decide +kernel)
set_option maxRecDepth 20000 in
theorem gX8_guardTold_X8_takes : GoodIn wsX8_guardTold (wsV RX8 315 RX8 yX8_takes wsX8_takes) := goodIn_app (goodIn_of _ (by decide +kernel)) ggX8_guardTold_X8_takes
theorem dX8_guardTold_0 : decode cX8_guardTold 0 = .ok (.aload_n 0, 1) := by decide +kernel
theorem dX8_guardTold_1 : decode cX8_guardTold 1 = .ok (.iconst 0, 1) := by decide +kernel
theorem dX8_guardTold_2 : decode cX8_guardTold 2 = .ok (.iconst 3, 1) := by decide +kernel
theorem dX8_guardTold_3 : decode cX8_guardTold 3 = .ok (.invokevirtual 318, 3) := by decide +kernel
theorem dX8_guardTold_6 : decode cX8_guardTold 6 = .ok (.istore_n 1, 1) := by decide +kernel
theorem dX8_guardTold_7 : decode cX8_guardTold 7 = .ok (.aload_n 0, 1) := by decide +kernel
theorem dX8_guardTold_8 : decode cX8_guardTold 8 = .ok (.ldc_w 313, 3) := by decide +kernel
theorem dX8_guardTold_11 : decode cX8_guardTold 11 = .ok (.invokevirtual 315, 3) := by decide +kernel
theorem dX8_guardTold_14 : decode cX8_guardTold 14 = .ok (.ifCond .eq 13, 3) := by decide +kernel
theorem dX8_guardTold_17 : decode cX8_guardTold 17 = .ok (.aload_n 0, 1) := by decide +kernel
theorem dX8_guardTold_18 : decode cX8_guardTold 18 = .ok (.iconst 0, 1) := by decide +kernel
theorem dX8_guardTold_19 : decode cX8_guardTold 19 = .ok (.bipush 47, 2) := by decide +kernel
theorem dX8_guardTold_21 : decode cX8_guardTold 21 = .ok (.invokevirtual 318, 3) := by decide +kernel
theorem dX8_guardTold_24 : decode cX8_guardTold 24 = .ok (.goto 4, 3) := by decide +kernel
theorem dX8_guardTold_27 : decode cX8_guardTold 27 = .ok (.iconst (-1), 1) := by decide +kernel
theorem dX8_guardTold_28 : decode cX8_guardTold 28 = .ok (.istore_n 2, 1) := by decide +kernel
theorem dX8_guardTold_29 : decode cX8_guardTold 29 = .ok (.aload_n 0, 1) := by decide +kernel
theorem dX8_guardTold_30 : decode cX8_guardTold 30 = .ok (.getfield 277, 3) := by decide +kernel
theorem dX8_guardTold_33 : decode cX8_guardTold 33 = .ok (.ifCond .ne 12, 3) := by decide +kernel
theorem dX8_guardTold_36 : decode cX8_guardTold 36 = .ok (.aload_n 0, 1) := by decide +kernel
theorem dX8_guardTold_37 : decode cX8_guardTold 37 = .ok (.getfield 9, 3) := by decide +kernel
theorem dX8_guardTold_40 : decode cX8_guardTold 40 = .ok (.iconst 5, 1) := by decide +kernel
theorem dX8_guardTold_41 : decode cX8_guardTold 41 = .ok (.iload_n 1, 1) := by decide +kernel
theorem dX8_guardTold_42 : decode cX8_guardTold 42 = .ok (.iadd, 1) := by decide +kernel
theorem dX8_guardTold_43 : decode cX8_guardTold 43 = .ok (.iload_n 2, 1) := by decide +kernel
theorem dX8_guardTold_44 : decode cX8_guardTold 44 = .ok (.iastore, 1) := by decide +kernel
theorem dX8_guardTold_45 : decode cX8_guardTold 45 = .ok (.return_, 1) := by decide +kernel
set_option maxRecDepth 20000 in
theorem ggX8_item_X8_kindHere : GoodIn wsX8_item wsX8_kindHere := goodIn_r _ [6, 7, 8, 9, 5, 10, 11, 12, 13, 14, 15, 16, 17, 18, 19, 20, 21, 22, 23, 24, 25, 26, 27, 28, 29, 30, 31, 32, 33, 34, 35, 36, 37, 38, 39, 40, 41, 42, 43, 44, 45, 46, 47, 48, 49, 50, 51, 52, 53, 54, 55, 56, 57, 58, 59, 60, 61, 62, 63, 108, 109, 110, 111, 112, 113, 114, 115, 116, 117, 118, 119, 120, 121, 122, 123, 124, 125, 126, 127] (by decide +kernel) (by decide +kernel)
set_option maxRecDepth 20000 in
theorem gX8_item_X8_kindHere : GoodIn wsX8_item (wsV RX8 325 RX8 yX8_kindHere wsX8_kindHere) := goodIn_app (goodIn_of _ (by decide +kernel)) ggX8_item_X8_kindHere
set_option maxRecDepth 20000 in
theorem ggX8_item_X8_batherTold : GoodIn wsX8_item wsX8_batherTold := goodIn_r _ [67, 1, 11, 68, 69, 70, 5, 71, 72, 73, 74, 75, 12, 13, 76, 77, 78, 79, 80, 14, 81, 82, 83, 84, 85, 86, 87, 88, 89, 90, 91, 92, 93, 94, 95, 7, 8, 9, 10, 15, 16, 17, 18, 19, 20, 21, 22, 23, 24, 25, 26, 27, 28, 29, 30, 31, 32, 33, 34, 35, 36, 37, 38, 39, 40, 41, 42, 43, 44, 45, 46, 47, 48, 49, 50, 51, 52, 53, 54, 55, 56, 57, 58, 59, 60, 61, 62, 63, 96, 97, 98, 99, 108, 109, 110, 111, 112, 113, 114, 115, 116, 117, 118, 119, 120, 121, 122, 123, 124, 125, 126, 127] (by decide +kernel) (by decide +kernel)
set_option maxRecDepth 20000 in
theorem gX8_item_X8_batherTold : GoodIn wsX8_item (wsV RX8 328 RX8 yX8_batherTold wsX8_batherTold) := goodIn_app (goodIn_of _ (by decide +kernel)) ggX8_item_X8_batherTold
set_option maxRecDepth 20000 in
theorem ggX8_item_X8_takes : GoodIn wsX8_item wsX8_takes := goodIn_r _ [95, 7, 8, 9, 5, 10, 11, 12, 13, 14, 15, 16, 17, 18, 19, 20, 21, 22, 23, 24, 25, 26, 27, 28, 29, 30, 31, 32, 33, 34, 35, 36, 37, 38, 39, 40, 41, 42, 43, 44, 45, 46, 47, 48, 49, 50, 51, 52, 53, 54, 55, 56, 57, 58, 59, 60, 61, 62, 63, 72, 73, 74, 75, 76, 77, 78, 79, 80, 81, 82, 83, 108, 109, 110, 111, 112, 113, 114, 115, 116, 117, 118, 119, 120, 121, 122, 123, 124, 125, 126, 127] (by decide +kernel) (by decide +kernel)
set_option maxRecDepth 20000 in
theorem gX8_item_X8_takes : GoodIn wsX8_item (wsV RX8 315 RX8 yX8_takes wsX8_takes) := goodIn_app (goodIn_of _ (by decide +kernel)) ggX8_item_X8_takes
set_option maxRecDepth 20000 in
theorem ggX8_item_X8_cellTold : GoodIn wsX8_item wsX8_cellTold := goodIn_r _ [103, 11, 1, 96, 97, 98, 5, 99, 13, 12, 14, 77, 78, 79, 80, 76, 81, 82, 83, 68, 69, 70, 71, 72, 73, 74, 75, 108, 109, 110, 111, 112, 113, 114, 115, 116, 117, 118, 119, 120, 121, 122, 123, 124, 125, 126, 127] (by decide +kernel) (by decide +kernel)
set_option maxRecDepth 20000 in
theorem gX8_item_X8_cellTold : GoodIn wsX8_item (wsV RX8 333 RX8 yX8_cellTold wsX8_cellTold) := goodIn_app (goodIn_of _ (by decide +kernel)) ggX8_item_X8_cellTold
set_option maxRecDepth 20000 in
theorem ggX8_item_X8_guardTold : GoodIn wsX8_item wsX8_guardTold := goodIn_r _ [107, 11, 1, 96, 97, 98, 5, 99, 13, 12, 14, 77, 78, 79, 80, 76, 81, 82, 83, 68, 69, 70, 71, 72, 73, 74, 75, 92, 93, 94, 95, 7, 8, 9, 10, 15, 16, 17, 18, 19, 20, 21, 22, 23, 24, 25, 26, 27, 28, 29, 30, 31, 32, 33, 34, 35, 36, 37, 38, 39, 40, 41, 42, 43, 44, 45, 46, 47, 48, 49, 50, 51, 52, 53, 54, 55, 56, 57, 58, 59, 60, 61, 62, 63, 108, 109, 110, 111, 112, 113, 114, 115, 116, 117, 118, 119, 120, 121, 122, 123, 124, 125, 126, 127] (by decide +kernel) (by decide +kernel)
set_option maxRecDepth 20000 in
theorem gX8_item_X8_guardTold : GoodIn wsX8_item (wsV RX8 341 RX8 yX8_guardTold wsX8_guardTold) := goodIn_app (goodIn_of _ (by decide +kernel)) ggX8_item_X8_guardTold
set_option maxRecDepth 20000 in
theorem ggX8_item_X8_isWord : GoodIn wsX8_item wsX8_isWord := goodIn_r _ [10, 11, 12, 13, 14, 15, 16, 17, 18, 19, 20, 21, 22, 23, 24, 25, 26, 27, 28, 29, 30, 31, 32, 33, 34, 35, 36, 37, 38, 39, 40, 41, 42, 43, 44, 45, 46, 47, 48, 49, 50, 51, 52, 53, 54, 55, 56, 57, 58, 59, 60, 61, 62, 63, 108, 109, 110, 111, 112, 113, 114, 115, 116, 117, 118, 119, 120, 121, 122, 123, 124, 125, 126, 127] (by decide +kernel) (by decide +kernel)
set_option maxRecDepth 20000 in
theorem gX8_item_X8_isWord : GoodIn wsX8_item (wsV RX8 293 RX8 yX8_isWord wsX8_isWord) := goodIn_app (goodIn_of _ (by decide +kernel)) ggX8_item_X8_isWord
set_option maxRecDepth 20000 in
theorem ggX8_item_X8_must : GoodIn wsX8_item wsX8_must := goodIn_r _ [71, 11, 72, 73, 74, 5, 75, 12, 13, 76, 77, 78, 79, 80, 14, 81, 82, 83, 108, 109, 110, 111, 112, 113, 114, 115, 116, 117, 118, 119, 120, 121, 122, 123, 124, 125, 126, 127] (by decide +kernel) (by decide +kernel)
set_option maxRecDepth 20000 in
theorem gX8_item_X8_must : GoodIn wsX8_item (wsV RX8 297 RX8 yX8_must wsX8_must) := goodIn_app (goodIn_of _ (by decide +kernel)) ggX8_item_X8_must
set_option maxRecDepth 20000 in
theorem ggX8_item_X8_numberRead : GoodIn wsX8_item wsX8_numberRead := goodIn_r _ [99, 13, 12, 14, 77, 78, 79, 5, 80, 76, 81, 82, 83, 68, 69, 70, 71, 11, 72, 73, 74, 75, 108, 109, 110, 111, 112, 113, 114, 115, 116, 117, 118, 119, 120, 121, 122, 123, 124, 125, 126, 127] (by decide +kernel) (by decide +kernel)
set_option maxRecDepth 20000 in
theorem gX8_item_X8_numberRead : GoodIn wsX8_item (wsV RX8 318 RX8 yX8_numberRead wsX8_numberRead) := goodIn_app (goodIn_of _ (by decide +kernel)) ggX8_item_X8_numberRead
theorem dX8_item_0 : decode cX8_item 0 = .ok (.aload_n 0, 1) := by decide +kernel
theorem dX8_item_1 : decode cX8_item 1 = .ok (.invokevirtual 325, 3) := by decide +kernel
theorem dX8_item_4 : decode cX8_item 4 = .ok (.istore_n 1, 1) := by decide +kernel
theorem dX8_item_5 : decode cX8_item 5 = .ok (.iload_n 1, 1) := by decide +kernel
theorem dX8_item_6 : decode cX8_item 6 = .ok (.ifCond .lt 11, 3) := by decide +kernel
theorem dX8_item_9 : decode cX8_item 9 = .ok (.aload_n 0, 1) := by decide +kernel
theorem dX8_item_10 : decode cX8_item 10 = .ok (.iload_n 1, 1) := by decide +kernel
theorem dX8_item_11 : decode cX8_item 11 = .ok (.invokevirtual 328, 3) := by decide +kernel
theorem dX8_item_14 : decode cX8_item 14 = .ok (.goto 85, 3) := by decide +kernel
theorem dX8_item_17 : decode cX8_item 17 = .ok (.aload_n 0, 1) := by decide +kernel
theorem dX8_item_18 : decode cX8_item 18 = .ok (.ldc_w 331, 3) := by decide +kernel
theorem dX8_item_21 : decode cX8_item 21 = .ok (.invokevirtual 315, 3) := by decide +kernel
theorem dX8_item_24 : decode cX8_item 24 = .ok (.ifCond .eq 14, 3) := by decide +kernel
theorem dX8_item_27 : decode cX8_item 27 = .ok (.aload_n 0, 1) := by decide +kernel
theorem dX8_item_28 : decode cX8_item 28 = .ok (.bipush 9, 2) := by decide +kernel
theorem dX8_item_30 : decode cX8_item 30 = .ok (.bipush 9, 2) := by decide +kernel
theorem dX8_item_32 : decode cX8_item 32 = .ok (.invokevirtual 333, 3) := by decide +kernel
theorem dX8_item_35 : decode cX8_item 35 = .ok (.goto 64, 3) := by decide +kernel
theorem dX8_item_38 : decode cX8_item 38 = .ok (.aload_n 0, 1) := by decide +kernel
theorem dX8_item_39 : decode cX8_item 39 = .ok (.ldc_w 337, 3) := by decide +kernel
theorem dX8_item_42 : decode cX8_item 42 = .ok (.invokevirtual 315, 3) := by decide +kernel
theorem dX8_item_45 : decode cX8_item 45 = .ok (.ifCond .eq 13, 3) := by decide +kernel
theorem dX8_item_48 : decode cX8_item 48 = .ok (.aload_n 0, 1) := by decide +kernel
theorem dX8_item_49 : decode cX8_item 49 = .ok (.bipush 57, 2) := by decide +kernel
theorem dX8_item_51 : decode cX8_item 51 = .ok (.iconst 4, 1) := by decide +kernel
theorem dX8_item_52 : decode cX8_item 52 = .ok (.invokevirtual 333, 3) := by decide +kernel
theorem dX8_item_55 : decode cX8_item 55 = .ok (.goto 44, 3) := by decide +kernel
theorem dX8_item_58 : decode cX8_item 58 = .ok (.aload_n 0, 1) := by decide +kernel
theorem dX8_item_59 : decode cX8_item 59 = .ok (.ldc_w 339, 3) := by decide +kernel
theorem dX8_item_62 : decode cX8_item 62 = .ok (.invokevirtual 315, 3) := by decide +kernel
theorem dX8_item_65 : decode cX8_item 65 = .ok (.ifCond .eq 10, 3) := by decide +kernel
theorem dX8_item_68 : decode cX8_item 68 = .ok (.aload_n 0, 1) := by decide +kernel
theorem dX8_item_69 : decode cX8_item 69 = .ok (.invokevirtual 341, 3) := by decide +kernel
theorem dX8_item_72 : decode cX8_item 72 = .ok (.goto 27, 3) := by decide +kernel
theorem dX8_item_75 : decode cX8_item 75 = .ok (.aload_n 0, 1) := by decide +kernel
theorem dX8_item_76 : decode cX8_item 76 = .ok (.aload_n 0, 1) := by decide +kernel
theorem dX8_item_77 : decode cX8_item 77 = .ok (.ldc_w 344, 3) := by decide +kernel
theorem dX8_item_80 : decode cX8_item 80 = .ok (.invokevirtual 293, 3) := by decide +kernel
theorem dX8_item_83 : decode cX8_item 83 = .ok (.invokevirtual 297, 3) := by decide +kernel
theorem dX8_item_86 : decode cX8_item 86 = .ok (.aload_n 0, 1) := by decide +kernel
theorem dX8_item_87 : decode cX8_item 87 = .ok (.getfield 9, 3) := by decide +kernel
theorem dX8_item_90 : decode cX8_item 90 = .ok (.iconst 2, 1) := by decide +kernel
theorem dX8_item_91 : decode cX8_item 91 = .ok (.aload_n 0, 1) := by decide +kernel
theorem dX8_item_92 : decode cX8_item 92 = .ok (.iconst 0, 1) := by decide +kernel
theorem dX8_item_93 : decode cX8_item 93 = .ok (.bipush 12, 2) := by decide +kernel
theorem dX8_item_95 : decode cX8_item 95 = .ok (.invokevirtual 318, 3) := by decide +kernel
theorem dX8_item_98 : decode cX8_item 98 = .ok (.iastore, 1) := by decide +kernel
theorem dX8_item_99 : decode cX8_item 99 = .ok (.return_, 1) := by decide +kernel
set_option maxRecDepth 20000 in
theorem ggX8_text_X8_lends : GoodIn wsX8_text wsX8_lends := goodIn_r _ [9, 10, 11, 12, 13, 8, 14, 124, 125, 126, 127, 128, 129, 130, 131, 132, 133, 134, 135, 136, 137, 138, 139, 140, 141, 142, 143] (by decide +kernel) (by decide +kernel)
set_option maxRecDepth 20000 in
theorem gX8_text_X8_lends : GoodIn wsX8_text (wsV RX8 199 RX8 yX8_lends wsX8_lends) := goodIn_app (goodIn_of _ (by decide +kernel)) ggX8_text_X8_lends
set_option maxRecDepth 20000 in
theorem ggX8_text_X8_next_ : GoodIn wsX8_text wsX8_next_ := goodIn_r _ [18, 2, 3, 4, 19, 20, 21, 8, 22, 23, 24, 25, 26, 124, 125, 126, 127, 128, 129, 130, 131, 132, 133, 134, 135, 136, 137, 138, 139, 140, 141, 142, 143] (by decide +kernel) (by decide +kernel)
set_option maxRecDepth 20000 in
theorem gX8_text_X8_next_ : GoodIn wsX8_text (wsV RX8 290 RX8 yX8_next_ wsX8_next_) := goodIn_app (goodIn_of _ (by decide +kernel)) ggX8_text_X8_next_
set_option maxRecDepth 20000 in
theorem ggX8_text_X8_item : GoodIn wsX8_text wsX8_item := goodIn_r _ [30, 10, 31, 32, 33, 8, 34, 35, 36, 37, 38, 1, 2, 3, 23, 39, 40, 41, 42, 43, 44, 45, 46, 47, 48, 49, 50, 51, 52, 53, 54, 55, 56, 57, 58, 59, 60, 61, 62, 63, 64, 65, 66, 67, 68, 69, 70, 71, 72, 73, 74, 75, 76, 77, 78, 79, 80, 81, 82, 83, 84, 85, 86, 87, 88, 89, 90, 91, 92, 93, 94, 95, 15, 16, 17, 18, 4, 19, 20, 21, 22, 24, 25, 26, 96, 97, 98, 99, 100, 101, 102, 103, 104, 105, 106, 107, 108, 109, 110, 111, 112, 113, 114, 115, 116, 117, 118, 119, 124, 125, 126, 127, 128, 129, 130, 131, 132, 133, 134, 135, 136, 137, 138, 139, 140, 141, 142, 143] (by decide +kernel) (by decide +kernel)
set_option maxRecDepth 20000 in
theorem gX8_text_X8_item : GoodIn wsX8_text (wsV RX8 346 RX8 yX8_item wsX8_item) := goodIn_app (goodIn_of _ (by decide +kernel)) ggX8_text_X8_item
set_option maxRecDepth 20000 in
theorem ggX8_text_X8_isWord : GoodIn wsX8_text wsX8_isWord := goodIn_r _ [38, 1, 2, 3, 23, 39, 40, 41, 42, 43, 44, 45, 46, 47, 48, 49, 50, 51, 52, 53, 54, 55, 56, 57, 58, 59, 60, 61, 62, 63, 64, 65, 66, 67, 68, 69, 70, 71, 72, 73, 74, 75, 76, 77, 78, 79, 80, 81, 82, 83, 84, 85, 86, 87, 124, 125, 126, 127, 128, 129, 130, 131, 132, 133, 134, 135, 136, 137, 138, 139, 140, 141, 142, 143] (by decide +kernel) (by decide +kernel)
set_option maxRecDepth 20000 in
theorem gX8_text_X8_isWord : GoodIn wsX8_text (wsV RX8 293 RX8 yX8_isWord wsX8_isWord) := goodIn_app (goodIn_of _ (by decide +kernel)) ggX8_text_X8_isWord
set_option maxRecDepth 20000 in
theorem ggX8_text_X8_must : GoodIn wsX8_text wsX8_must := goodIn_r _ [95, 1, 15, 16, 17, 8, 18, 2, 3, 4, 19, 20, 21, 22, 23, 24, 25, 26, 124, 125, 126, 127, 128, 129, 130, 131, 132, 133, 134, 135, 136, 137, 138, 139, 140, 141, 142, 143] (by decide +kernel) (by decide +kernel)
set_option maxRecDepth 20000 in
theorem gX8_text_X8_must : GoodIn wsX8_text (wsV RX8 297 RX8 yX8_must wsX8_must) := goodIn_app (goodIn_of _ (by decide +kernel)) ggX8_text_X8_must
set_option maxRecDepth 20000 in
theorem ggX8_text_X8_laysBack : GoodIn wsX8_text wsX8_laysBack := goodIn_r _ [123, 11, 10, 12, 13, 8, 14, 124, 125, 126, 127, 128, 129, 130, 131, 132, 133, 134, 135, 136, 137, 138, 139, 140, 141, 142, 143] (by decide +kernel) (by decide +kernel)
set_option maxRecDepth 20000 in
theorem gX8_text_X8_laysBack : GoodIn wsX8_text (wsV RX8 202 RX8 yX8_laysBack wsX8_laysBack) := goodIn_app (goodIn_of _ (by decide +kernel)) ggX8_text_X8_laysBack
theorem dX8_text_0 : decode cX8_text 0 = .ok (.aload_n 0, 1) := by decide +kernel
theorem dX8_text_1 : decode cX8_text 1 = .ok (.invokevirtual 199, 3) := by decide +kernel
theorem dX8_text_4 : decode cX8_text 4 = .ok (.aload_n 0, 1) := by decide +kernel
theorem dX8_text_5 : decode cX8_text 5 = .ok (.iconst 0, 1) := by decide +kernel
theorem dX8_text_6 : decode cX8_text 6 = .ok (.putfield 277, 3) := by decide +kernel
theorem dX8_text_9 : decode cX8_text 9 = .ok (.aload_n 0, 1) := by decide +kernel
theorem dX8_text_10 : decode cX8_text 10 = .ok (.iconst 0, 1) := by decide +kernel
theorem dX8_text_11 : decode cX8_text 11 = .ok (.putfield 268, 3) := by decide +kernel
theorem dX8_text_14 : decode cX8_text 14 = .ok (.aload_n 0, 1) := by decide +kernel
theorem dX8_text_15 : decode cX8_text 15 = .ok (.invokevirtual 290, 3) := by decide +kernel
theorem dX8_text_18 : decode cX8_text 18 = .ok (.aload_n 0, 1) := by decide +kernel
theorem dX8_text_19 : decode cX8_text 19 = .ok (.invokevirtual 346, 3) := by decide +kernel
theorem dX8_text_22 : decode cX8_text 22 = .ok (.iconst 1, 1) := by decide +kernel
theorem dX8_text_23 : decode cX8_text 23 = .ok (.istore_n 1, 1) := by decide +kernel
theorem dX8_text_24 : decode cX8_text 24 = .ok (.aload_n 0, 1) := by decide +kernel
theorem dX8_text_25 : decode cX8_text 25 = .ok (.getfield 277, 3) := by decide +kernel
theorem dX8_text_28 : decode cX8_text 28 = .ok (.ifCond .ne 35, 3) := by decide +kernel
theorem dX8_text_31 : decode cX8_text 31 = .ok (.aload_n 0, 1) := by decide +kernel
theorem dX8_text_32 : decode cX8_text 32 = .ok (.getfield 271, 3) := by decide +kernel
theorem dX8_text_35 : decode cX8_text 35 = .ok (.aload_n 0, 1) := by decide +kernel
theorem dX8_text_36 : decode cX8_text 36 = .ok (.getfield 265, 3) := by decide +kernel
theorem dX8_text_39 : decode cX8_text 39 = .ok (.if_icmp .ge 24, 3) := by decide +kernel
theorem dX8_text_42 : decode cX8_text 42 = .ok (.aload_n 0, 1) := by decide +kernel
theorem dX8_text_43 : decode cX8_text 43 = .ok (.aload_n 0, 1) := by decide +kernel
theorem dX8_text_44 : decode cX8_text 44 = .ok (.ldc_w 349, 3) := by decide +kernel
theorem dX8_text_47 : decode cX8_text 47 = .ok (.invokevirtual 293, 3) := by decide +kernel
theorem dX8_text_50 : decode cX8_text 50 = .ok (.invokevirtual 297, 3) := by decide +kernel
theorem dX8_text_53 : decode cX8_text 53 = .ok (.aload_n 0, 1) := by decide +kernel
theorem dX8_text_54 : decode cX8_text 54 = .ok (.invokevirtual 346, 3) := by decide +kernel
theorem dX8_text_57 : decode cX8_text 57 = .ok (.iinc 1 1, 3) := by decide +kernel
theorem dX8_text_60 : decode cX8_text 60 = .ok (.goto (-36), 3) := by decide +kernel
theorem dX8_text_63 : decode cX8_text 63 = .ok (.aload_n 0, 1) := by decide +kernel
theorem dX8_text_64 : decode cX8_text 64 = .ok (.iconst 0, 1) := by decide +kernel
theorem dX8_text_65 : decode cX8_text 65 = .ok (.putfield 265, 3) := by decide +kernel
theorem dX8_text_68 : decode cX8_text 68 = .ok (.aload_n 0, 1) := by decide +kernel
theorem dX8_text_69 : decode cX8_text 69 = .ok (.getfield 277, 3) := by decide +kernel
theorem dX8_text_72 : decode cX8_text 72 = .ok (.ifCond .eq 14, 3) := by decide +kernel
theorem dX8_text_75 : decode cX8_text 75 = .ok (.aload_n 0, 1) := by decide +kernel
theorem dX8_text_76 : decode cX8_text 76 = .ok (.invokevirtual 202, 3) := by decide +kernel
theorem dX8_text_79 : decode cX8_text 79 = .ok (.iconst (-1), 1) := by decide +kernel
theorem dX8_text_80 : decode cX8_text 80 = .ok (.aload_n 0, 1) := by decide +kernel
theorem dX8_text_81 : decode cX8_text 81 = .ok (.getfield 271, 3) := by decide +kernel
theorem dX8_text_84 : decode cX8_text 84 = .ok (.isub, 1) := by decide +kernel
theorem dX8_text_85 : decode cX8_text 85 = .ok (.ireturn, 1) := by decide +kernel
theorem dX8_text_86 : decode cX8_text 86 = .ok (.iload_n 1, 1) := by decide +kernel
theorem dX8_text_87 : decode cX8_text 87 = .ok (.ireturn, 1) := by decide +kernel
set_option maxRecDepth 20000 in
theorem ggX8_isSpot_X8_in : GoodIn wsX8_isSpot wsX8_in := goodIn_r _ [5] (by decide +kernel) (by decide +kernel)
set_option maxRecDepth 20000 in
theorem gX8_isSpot_X8_in : GoodIn wsX8_isSpot (va_wsS RX8 58 yX8_in wsX8_in) := goodIn_app (goodIn_of _ (by decide +kernel)) ggX8_isSpot_X8_in
theorem dX8_isSpot_0 : decode cX8_isSpot 0 = .ok (.iload_n 0, 1) := by decide +kernel
theorem dX8_isSpot_1 : decode cX8_isSpot 1 = .ok (.i2l, 1) := by decide +kernel
theorem dX8_isSpot_2 : decode cX8_isSpot 2 = .ok (.lconst 0, 1) := by decide +kernel
theorem dX8_isSpot_3 : decode cX8_isSpot 3 = .ok (.ldc2_w 89, 3) := by decide +kernel
theorem dX8_isSpot_6 : decode cX8_isSpot 6 = .ok (.invokestatic 58, 3) := by decide +kernel
theorem dX8_isSpot_9 : decode cX8_isSpot 9 = .ok (.ireturn, 1) := by decide +kernel
set_option maxRecDepth 20000 in
theorem ggX8_hold_X8_isSpot : GoodIn wsX8_hold wsX8_isSpot := goodIn_r _ [5, 6, 7, 8, 4, 9] (by decide +kernel) (by decide +kernel)
set_option maxRecDepth 20000 in
theorem gX8_hold_X8_isSpot : GoodIn wsX8_hold (va_wsS RX8 351 yX8_isSpot wsX8_isSpot) := goodIn_app (goodIn_of _ (by decide +kernel)) ggX8_hold_X8_isSpot
set_option maxRecDepth 20000 in
theorem ggX8_hold_X8_isBather : GoodIn wsX8_hold wsX8_isBather := goodIn_r _ [13, 1, 7, 8, 4, 9, 20, 21, 22, 23, 24, 25, 26, 27, 28, 29, 30, 31, 32, 33, 34, 35, 36, 37, 38, 39] (by decide +kernel) (by decide +kernel)
set_option maxRecDepth 20000 in
theorem gX8_hold_X8_isBather : GoodIn wsX8_hold (wsV RX8 154 RX8 yX8_isBather wsX8_isBather) := goodIn_app (goodIn_of _ (by decide +kernel)) ggX8_hold_X8_isBather
set_option maxRecDepth 20000 in
theorem ggX8_hold_X8_finds : GoodIn wsX8_hold wsX8_finds := goodIn_r _ [17, 18, 19, 20, 21, 22, 23, 24, 25, 26, 27, 28, 29, 30, 31, 32, 33, 34, 35, 36, 37, 38, 39] (by decide +kernel) (by decide +kernel)
set_option maxRecDepth 20000 in
theorem gX8_hold_X8_finds : GoodIn wsX8_hold (wsV RX8 93 RX8 yX8_finds wsX8_finds) := goodIn_app (goodIn_of _ (by decide +kernel)) ggX8_hold_X8_finds
theorem dX8_hold_0 : decode cX8_hold 0 = .ok (.iload_n 1, 1) := by decide +kernel
theorem dX8_hold_1 : decode cX8_hold 1 = .ok (.invokestatic 351, 3) := by decide +kernel
theorem dX8_hold_4 : decode cX8_hold 4 = .ok (.ifCond .eq 16, 3) := by decide +kernel
theorem dX8_hold_7 : decode cX8_hold 7 = .ok (.iload_n 2, 1) := by decide +kernel
theorem dX8_hold_8 : decode cX8_hold 8 = .ok (.iconst (-1), 1) := by decide +kernel
theorem dX8_hold_9 : decode cX8_hold 9 = .ok (.if_icmp .eq 17, 3) := by decide +kernel
theorem dX8_hold_12 : decode cX8_hold 12 = .ok (.aload_n 0, 1) := by decide +kernel
theorem dX8_hold_13 : decode cX8_hold 13 = .ok (.iload_n 2, 1) := by decide +kernel
theorem dX8_hold_14 : decode cX8_hold 14 = .ok (.invokevirtual 154, 3) := by decide +kernel
theorem dX8_hold_17 : decode cX8_hold 17 = .ok (.ifCond .ne 9, 3) := by decide +kernel
theorem dX8_hold_20 : decode cX8_hold 20 = .ok (.aload_n 0, 1) := by decide +kernel
theorem dX8_hold_21 : decode cX8_hold 21 = .ok (.iconst 0, 1) := by decide +kernel
theorem dX8_hold_22 : decode cX8_hold 22 = .ok (.invokevirtual 93, 3) := by decide +kernel
theorem dX8_hold_25 : decode cX8_hold 25 = .ok (.ireturn, 1) := by decide +kernel
theorem dX8_hold_26 : decode cX8_hold 26 = .ok (.aload_n 0, 1) := by decide +kernel
theorem dX8_hold_27 : decode cX8_hold 27 = .ok (.getfield 9, 3) := by decide +kernel
theorem dX8_hold_30 : decode cX8_hold 30 = .ok (.sipush 145, 3) := by decide +kernel
theorem dX8_hold_33 : decode cX8_hold 33 = .ok (.iload_n 1, 1) := by decide +kernel
theorem dX8_hold_34 : decode cX8_hold 34 = .ok (.iadd, 1) := by decide +kernel
theorem dX8_hold_35 : decode cX8_hold 35 = .ok (.iload_n 2, 1) := by decide +kernel
theorem dX8_hold_36 : decode cX8_hold 36 = .ok (.iastore, 1) := by decide +kernel
theorem dX8_hold_37 : decode cX8_hold 37 = .ok (.iconst 1, 1) := by decide +kernel
theorem dX8_hold_38 : decode cX8_hold 38 = .ok (.ireturn, 1) := by decide +kernel
set_option maxRecDepth 20000 in
theorem ggX8_as_X8_isSpot : GoodIn wsX8_as wsX8_isSpot := goodIn_r _ [5, 6, 7, 8, 4, 9] (by decide +kernel) (by decide +kernel)
set_option maxRecDepth 20000 in
theorem gX8_as_X8_isSpot : GoodIn wsX8_as (va_wsS RX8 351 yX8_isSpot wsX8_isSpot) := goodIn_app (goodIn_of _ (by decide +kernel)) ggX8_as_X8_isSpot
set_option maxRecDepth 20000 in
theorem ggX8_as_X8_isKind : GoodIn wsX8_as wsX8_isKind := goodIn_r _ [12, 13, 7, 8, 4, 9] (by decide +kernel) (by decide +kernel)
set_option maxRecDepth 20000 in
theorem gX8_as_X8_isKind : GoodIn wsX8_as (va_wsS RX8 145 yX8_isKind wsX8_isKind) := goodIn_app (goodIn_of _ (by decide +kernel)) ggX8_as_X8_isKind
set_option maxRecDepth 20000 in
theorem ggX8_as_X8_finds : GoodIn wsX8_as wsX8_finds := goodIn_r _ [17, 18, 19, 30, 31, 32, 33, 34, 35, 36, 37, 38, 39, 40, 41, 42, 43, 44, 45, 46, 47, 48, 49] (by decide +kernel) (by decide +kernel)
set_option maxRecDepth 20000 in
theorem gX8_as_X8_finds : GoodIn wsX8_as (wsV RX8 93 RX8 yX8_finds wsX8_finds) := goodIn_app (goodIn_of _ (by decide +kernel)) ggX8_as_X8_finds
set_option maxRecDepth 20000 in
theorem ggX8_as_X8_its : GoodIn wsX8_as wsX8_its := goodIn_r _ [23, 1, 30, 31, 32, 33, 34, 35, 36, 37, 38, 39, 40, 41, 42, 43, 44, 45, 46, 47, 48, 49] (by decide +kernel) (by decide +kernel)
set_option maxRecDepth 20000 in
theorem gX8_as_X8_its : GoodIn wsX8_as (wsV RX8 99 RX8 yX8_its wsX8_its) := goodIn_app (goodIn_of _ (by decide +kernel)) ggX8_as_X8_its
set_option maxRecDepth 20000 in
theorem ggX8_as_X8_isUnder : GoodIn wsX8_as wsX8_isUnder := goodIn_r _ [26, 27, 28, 4, 29] (by decide +kernel) (by decide +kernel)
set_option maxRecDepth 20000 in
theorem gX8_as_X8_isUnder : GoodIn wsX8_as (va_wsS RX8 354 yX8_isUnder wsX8_isUnder) := goodIn_app (goodIn_of _ (by decide +kernel)) ggX8_as_X8_isUnder
theorem dX8_as_0 : decode cX8_as 0 = .ok (.iload_n 1, 1) := by decide +kernel
theorem dX8_as_1 : decode cX8_as 1 = .ok (.invokestatic 351, 3) := by decide +kernel
theorem dX8_as_4 : decode cX8_as 4 = .ok (.ifCond .eq 10, 3) := by decide +kernel
theorem dX8_as_7 : decode cX8_as 7 = .ok (.iload_n 2, 1) := by decide +kernel
theorem dX8_as_8 : decode cX8_as 8 = .ok (.invokestatic 145, 3) := by decide +kernel
theorem dX8_as_11 : decode cX8_as 11 = .ok (.ifCond .ne 9, 3) := by decide +kernel
theorem dX8_as_14 : decode cX8_as 14 = .ok (.aload_n 0, 1) := by decide +kernel
theorem dX8_as_15 : decode cX8_as 15 = .ok (.iconst 0, 1) := by decide +kernel
theorem dX8_as_16 : decode cX8_as 16 = .ok (.invokevirtual 93, 3) := by decide +kernel
theorem dX8_as_19 : decode cX8_as 19 = .ok (.ireturn, 1) := by decide +kernel
theorem dX8_as_20 : decode cX8_as 20 = .ok (.aload_n 0, 1) := by decide +kernel
theorem dX8_as_21 : decode cX8_as 21 = .ok (.getfield 9, 3) := by decide +kernel
theorem dX8_as_24 : decode cX8_as 24 = .ok (.sipush 145, 3) := by decide +kernel
theorem dX8_as_27 : decode cX8_as 27 = .ok (.iload_n 1, 1) := by decide +kernel
theorem dX8_as_28 : decode cX8_as 28 = .ok (.iadd, 1) := by decide +kernel
theorem dX8_as_29 : decode cX8_as 29 = .ok (.iaload, 1) := by decide +kernel
theorem dX8_as_30 : decode cX8_as 30 = .ok (.istore_n 3, 1) := by decide +kernel
theorem dX8_as_31 : decode cX8_as 31 = .ok (.iload_n 3, 1) := by decide +kernel
theorem dX8_as_32 : decode cX8_as 32 = .ok (.ifCond .ge 9, 3) := by decide +kernel
theorem dX8_as_35 : decode cX8_as 35 = .ok (.aload_n 0, 1) := by decide +kernel
theorem dX8_as_36 : decode cX8_as 36 = .ok (.iconst 5, 1) := by decide +kernel
theorem dX8_as_37 : decode cX8_as 37 = .ok (.invokevirtual 93, 3) := by decide +kernel
theorem dX8_as_40 : decode cX8_as 40 = .ok (.ireturn, 1) := by decide +kernel
theorem dX8_as_41 : decode cX8_as 41 = .ok (.aload_n 0, 1) := by decide +kernel
theorem dX8_as_42 : decode cX8_as 42 = .ok (.iload_n 3, 1) := by decide +kernel
theorem dX8_as_43 : decode cX8_as 43 = .ok (.iconst 0, 1) := by decide +kernel
theorem dX8_as_44 : decode cX8_as 44 = .ok (.invokevirtual 99, 3) := by decide +kernel
theorem dX8_as_47 : decode cX8_as 47 = .ok (.iload_n 2, 1) := by decide +kernel
theorem dX8_as_48 : decode cX8_as 48 = .ok (.invokestatic 354, 3) := by decide +kernel
theorem dX8_as_51 : decode cX8_as 51 = .ok (.ifCond .eq 7, 3) := by decide +kernel
theorem dX8_as_54 : decode cX8_as 54 = .ok (.iload_n 3, 1) := by decide +kernel
theorem dX8_as_55 : decode cX8_as 55 = .ok (.goto 8, 3) := by decide +kernel
theorem dX8_as_58 : decode cX8_as 58 = .ok (.aload_n 0, 1) := by decide +kernel
theorem dX8_as_59 : decode cX8_as 59 = .ok (.iconst 2, 1) := by decide +kernel
theorem dX8_as_60 : decode cX8_as 60 = .ok (.invokevirtual 93, 3) := by decide +kernel
theorem dX8_as_63 : decode cX8_as 63 = .ok (.ireturn, 1) := by decide +kernel
set_option maxRecDepth 20000 in
theorem ggX8_isSheet_X8_in : GoodIn wsX8_isSheet wsX8_in := goodIn_r _ [5] (by decide +kernel) (by decide +kernel)
set_option maxRecDepth 20000 in
theorem gX8_isSheet_X8_in : GoodIn wsX8_isSheet (va_wsS RX8 58 yX8_in wsX8_in) := goodIn_app (goodIn_of _ (by decide +kernel)) ggX8_isSheet_X8_in
theorem dX8_isSheet_0 : decode cX8_isSheet 0 = .ok (.iload_n 0, 1) := by decide +kernel
theorem dX8_isSheet_1 : decode cX8_isSheet 1 = .ok (.i2l, 1) := by decide +kernel
theorem dX8_isSheet_2 : decode cX8_isSheet 2 = .ok (.lconst 0, 1) := by decide +kernel
theorem dX8_isSheet_3 : decode cX8_isSheet 3 = .ok (.ldc2_w 62, 3) := by decide +kernel
theorem dX8_isSheet_6 : decode cX8_isSheet 6 = .ok (.invokestatic 58, 3) := by decide +kernel
theorem dX8_isSheet_9 : decode cX8_isSheet 9 = .ok (.ireturn, 1) := by decide +kernel
set_option maxRecDepth 20000 in
theorem ggX8_sheet_X8_isSheet : GoodIn wsX8_sheet wsX8_isSheet := goodIn_r _ [7, 8, 9, 10, 6, 11] (by decide +kernel) (by decide +kernel)
set_option maxRecDepth 20000 in
theorem gX8_sheet_X8_isSheet : GoodIn wsX8_sheet (va_wsS RX8 357 yX8_isSheet wsX8_isSheet) := goodIn_app (goodIn_of _ (by decide +kernel)) ggX8_sheet_X8_isSheet
set_option maxRecDepth 20000 in
theorem ggX8_sheet_X8_finds : GoodIn wsX8_sheet wsX8_finds := goodIn_r _ [15, 16, 17, 18, 19, 20, 21, 22, 23, 24, 25, 26, 27, 28, 29, 30, 31, 32, 33, 34, 35, 36, 37] (by decide +kernel) (by decide +kernel)
set_option maxRecDepth 20000 in
theorem gX8_sheet_X8_finds : GoodIn wsX8_sheet (wsV RX8 93 RX8 yX8_finds wsX8_finds) := goodIn_app (goodIn_of _ (by decide +kernel)) ggX8_sheet_X8_finds
theorem dX8_sheet_0 : decode cX8_sheet 0 = .ok (.iload_n 2, 1) := by decide +kernel
theorem dX8_sheet_1 : decode cX8_sheet 1 = .ok (.ifCond .eq 21, 3) := by decide +kernel
theorem dX8_sheet_4 : decode cX8_sheet 4 = .ok (.iload_n 2, 1) := by decide +kernel
theorem dX8_sheet_5 : decode cX8_sheet 5 = .ok (.bipush 8, 2) := by decide +kernel
theorem dX8_sheet_7 : decode cX8_sheet 7 = .ok (.if_icmp .eq 15, 3) := by decide +kernel
theorem dX8_sheet_10 : decode cX8_sheet 10 = .ok (.iload_n 2, 1) := by decide +kernel
theorem dX8_sheet_11 : decode cX8_sheet 11 = .ok (.bipush 16, 2) := by decide +kernel
theorem dX8_sheet_13 : decode cX8_sheet 13 = .ok (.if_icmp .eq 9, 3) := by decide +kernel
theorem dX8_sheet_16 : decode cX8_sheet 16 = .ok (.iload_n 2, 1) := by decide +kernel
theorem dX8_sheet_17 : decode cX8_sheet 17 = .ok (.bipush 32, 2) := by decide +kernel
theorem dX8_sheet_19 : decode cX8_sheet 19 = .ok (.if_icmp .ne 7, 3) := by decide +kernel
theorem dX8_sheet_22 : decode cX8_sheet 22 = .ok (.iconst 1, 1) := by decide +kernel
theorem dX8_sheet_23 : decode cX8_sheet 23 = .ok (.goto 4, 3) := by decide +kernel
theorem dX8_sheet_26 : decode cX8_sheet 26 = .ok (.iconst 0, 1) := by decide +kernel
theorem dX8_sheet_27 : decode cX8_sheet 27 = .ok (.istore 4, 2) := by decide +kernel
theorem dX8_sheet_29 : decode cX8_sheet 29 = .ok (.iload_n 1, 1) := by decide +kernel
theorem dX8_sheet_30 : decode cX8_sheet 30 = .ok (.invokestatic 357, 3) := by decide +kernel
theorem dX8_sheet_33 : decode cX8_sheet 33 = .ok (.ifCond .eq 8, 3) := by decide +kernel
theorem dX8_sheet_36 : decode cX8_sheet 36 = .ok (.iload 4, 2) := by decide +kernel
theorem dX8_sheet_38 : decode cX8_sheet 38 = .ok (.ifCond .ne 9, 3) := by decide +kernel
theorem dX8_sheet_41 : decode cX8_sheet 41 = .ok (.aload_n 0, 1) := by decide +kernel
theorem dX8_sheet_42 : decode cX8_sheet 42 = .ok (.iconst 0, 1) := by decide +kernel
theorem dX8_sheet_43 : decode cX8_sheet 43 = .ok (.invokevirtual 93, 3) := by decide +kernel
theorem dX8_sheet_46 : decode cX8_sheet 46 = .ok (.ireturn, 1) := by decide +kernel
theorem dX8_sheet_47 : decode cX8_sheet 47 = .ok (.iload_n 3, 1) := by decide +kernel
theorem dX8_sheet_48 : decode cX8_sheet 48 = .ok (.ifCond .ge 10, 3) := by decide +kernel
theorem dX8_sheet_51 : decode cX8_sheet 51 = .ok (.aload_n 0, 1) := by decide +kernel
theorem dX8_sheet_52 : decode cX8_sheet 52 = .ok (.bipush 6, 2) := by decide +kernel
theorem dX8_sheet_54 : decode cX8_sheet 54 = .ok (.invokevirtual 93, 3) := by decide +kernel
theorem dX8_sheet_57 : decode cX8_sheet 57 = .ok (.ireturn, 1) := by decide +kernel
theorem dX8_sheet_58 : decode cX8_sheet 58 = .ok (.iload_n 3, 1) := by decide +kernel
theorem dX8_sheet_59 : decode cX8_sheet 59 = .ok (.bipush 40, 2) := by decide +kernel
theorem dX8_sheet_61 : decode cX8_sheet 61 = .ok (.if_icmp .le 9, 3) := by decide +kernel
theorem dX8_sheet_64 : decode cX8_sheet 64 = .ok (.aload_n 0, 1) := by decide +kernel
theorem dX8_sheet_65 : decode cX8_sheet 65 = .ok (.iconst 0, 1) := by decide +kernel
theorem dX8_sheet_66 : decode cX8_sheet 66 = .ok (.invokevirtual 93, 3) := by decide +kernel
theorem dX8_sheet_69 : decode cX8_sheet 69 = .ok (.ireturn, 1) := by decide +kernel
theorem dX8_sheet_70 : decode cX8_sheet 70 = .ok (.aload_n 0, 1) := by decide +kernel
theorem dX8_sheet_71 : decode cX8_sheet 71 = .ok (.getfield 39, 3) := by decide +kernel
theorem dX8_sheet_74 : decode cX8_sheet 74 = .ok (.iload_n 1, 1) := by decide +kernel
theorem dX8_sheet_75 : decode cX8_sheet 75 = .ok (.iload_n 2, 1) := by decide +kernel
theorem dX8_sheet_76 : decode cX8_sheet 76 = .ok (.iastore, 1) := by decide +kernel
theorem dX8_sheet_77 : decode cX8_sheet 77 = .ok (.aload_n 0, 1) := by decide +kernel
theorem dX8_sheet_78 : decode cX8_sheet 78 = .ok (.getfield 42, 3) := by decide +kernel
theorem dX8_sheet_81 : decode cX8_sheet 81 = .ok (.iload_n 1, 1) := by decide +kernel
theorem dX8_sheet_82 : decode cX8_sheet 82 = .ok (.iload_n 2, 1) := by decide +kernel
theorem dX8_sheet_83 : decode cX8_sheet 83 = .ok (.ifCond .ne 7, 3) := by decide +kernel
theorem dX8_sheet_86 : decode cX8_sheet 86 = .ok (.iconst 0, 1) := by decide +kernel
theorem dX8_sheet_87 : decode cX8_sheet 87 = .ok (.goto 4, 3) := by decide +kernel
theorem dX8_sheet_90 : decode cX8_sheet 90 = .ok (.iload_n 3, 1) := by decide +kernel
theorem dX8_sheet_91 : decode cX8_sheet 91 = .ok (.iastore, 1) := by decide +kernel
theorem dX8_sheet_92 : decode cX8_sheet 92 = .ok (.iconst 0, 1) := by decide +kernel
theorem dX8_sheet_93 : decode cX8_sheet 93 = .ok (.istore 5, 2) := by decide +kernel
theorem dX8_sheet_95 : decode cX8_sheet 95 = .ok (.iload 5, 2) := by decide +kernel
theorem dX8_sheet_97 : decode cX8_sheet 97 = .ok (.bipush 40, 2) := by decide +kernel
theorem dX8_sheet_99 : decode cX8_sheet 99 = .ok (.if_icmp .ge 22, 3) := by decide +kernel
theorem dX8_sheet_102 : decode cX8_sheet 102 = .ok (.aload_n 0, 1) := by decide +kernel
theorem dX8_sheet_103 : decode cX8_sheet 103 = .ok (.getfield 45, 3) := by decide +kernel
theorem dX8_sheet_106 : decode cX8_sheet 106 = .ok (.bipush 40, 2) := by decide +kernel
theorem dX8_sheet_108 : decode cX8_sheet 108 = .ok (.iload_n 1, 1) := by decide +kernel
theorem dX8_sheet_109 : decode cX8_sheet 109 = .ok (.imul, 1) := by decide +kernel
theorem dX8_sheet_110 : decode cX8_sheet 110 = .ok (.iload 5, 2) := by decide +kernel
theorem dX8_sheet_112 : decode cX8_sheet 112 = .ok (.iadd, 1) := by decide +kernel
theorem dX8_sheet_113 : decode cX8_sheet 113 = .ok (.iconst 0, 1) := by decide +kernel
theorem dX8_sheet_114 : decode cX8_sheet 114 = .ok (.iastore, 1) := by decide +kernel
theorem dX8_sheet_115 : decode cX8_sheet 115 = .ok (.iinc 5 1, 3) := by decide +kernel
theorem dX8_sheet_118 : decode cX8_sheet 118 = .ok (.goto (-23), 3) := by decide +kernel
theorem dX8_sheet_121 : decode cX8_sheet 121 = .ok (.aload_n 0, 1) := by decide +kernel
theorem dX8_sheet_122 : decode cX8_sheet 122 = .ok (.getfield 42, 3) := by decide +kernel
theorem dX8_sheet_125 : decode cX8_sheet 125 = .ok (.iload_n 1, 1) := by decide +kernel
theorem dX8_sheet_126 : decode cX8_sheet 126 = .ok (.iaload, 1) := by decide +kernel
theorem dX8_sheet_127 : decode cX8_sheet 127 = .ok (.ireturn, 1) := by decide +kernel
set_option maxRecDepth 20000 in
theorem ggX8_lacks_X8_isSheet : GoodIn wsX8_lacks wsX8_isSheet := goodIn_r _ [5, 6, 7, 8, 4, 9] (by decide +kernel) (by decide +kernel)
set_option maxRecDepth 20000 in
theorem gX8_lacks_X8_isSheet : GoodIn wsX8_lacks (va_wsS RX8 357 yX8_isSheet wsX8_isSheet) := goodIn_app (goodIn_of _ (by decide +kernel)) ggX8_lacks_X8_isSheet
theorem dX8_lacks_0 : decode cX8_lacks 0 = .ok (.iload_n 1, 1) := by decide +kernel
theorem dX8_lacks_1 : decode cX8_lacks 1 = .ok (.invokestatic 357, 3) := by decide +kernel
theorem dX8_lacks_4 : decode cX8_lacks 4 = .ok (.ifCond .ne 7, 3) := by decide +kernel
theorem dX8_lacks_7 : decode cX8_lacks 7 = .ok (.iconst 0, 1) := by decide +kernel
theorem dX8_lacks_8 : decode cX8_lacks 8 = .ok (.goto 17, 3) := by decide +kernel
theorem dX8_lacks_11 : decode cX8_lacks 11 = .ok (.aload_n 0, 1) := by decide +kernel
theorem dX8_lacks_12 : decode cX8_lacks 12 = .ok (.getfield 39, 3) := by decide +kernel
theorem dX8_lacks_15 : decode cX8_lacks 15 = .ok (.iload_n 1, 1) := by decide +kernel
theorem dX8_lacks_16 : decode cX8_lacks 16 = .ok (.iaload, 1) := by decide +kernel
theorem dX8_lacks_17 : decode cX8_lacks 17 = .ok (.ifCond .ne 7, 3) := by decide +kernel
theorem dX8_lacks_20 : decode cX8_lacks 20 = .ok (.iconst 5, 1) := by decide +kernel
theorem dX8_lacks_21 : decode cX8_lacks 21 = .ok (.goto 4, 3) := by decide +kernel
theorem dX8_lacks_24 : decode cX8_lacks 24 = .ok (.iconst (-1), 1) := by decide +kernel
theorem dX8_lacks_25 : decode cX8_lacks 25 = .ok (.ireturn, 1) := by decide +kernel
set_option maxRecDepth 20000 in
theorem ggX8_write_X8_lacks : GoodIn wsX8_write wsX8_lacks := goodIn_r _ [8, 3, 9, 10, 7, 11, 12, 13, 14, 15, 22, 23, 24, 25, 26, 27, 28, 29, 30, 31, 32, 33, 34, 35, 36, 37, 38, 39, 40, 41] (by decide +kernel) (by decide +kernel)
set_option maxRecDepth 20000 in
theorem gX8_write_X8_lacks : GoodIn wsX8_write (wsV RX8 249 RX8 yX8_lacks wsX8_lacks) := goodIn_app (goodIn_of _ (by decide +kernel)) ggX8_write_X8_lacks
set_option maxRecDepth 20000 in
theorem ggX8_write_X8_finds : GoodIn wsX8_write wsX8_finds := goodIn_r _ [19, 20, 21, 22, 23, 24, 25, 26, 27, 28, 29, 30, 31, 32, 33, 34, 35, 36, 37, 38, 39, 40, 41] (by decide +kernel) (by decide +kernel)
set_option maxRecDepth 20000 in
theorem gX8_write_X8_finds : GoodIn wsX8_write (wsV RX8 93 RX8 yX8_finds wsX8_finds) := goodIn_app (goodIn_of _ (by decide +kernel)) ggX8_write_X8_finds
set_option maxRecDepth 20000 in
theorem ggX8_write_X8_in : GoodIn wsX8_write wsX8_in := goodIn_r _ [15] (by decide +kernel) (by decide +kernel)
set_option maxRecDepth 20000 in
theorem gX8_write_X8_in : GoodIn wsX8_write (va_wsS RX8 58 yX8_in wsX8_in) := goodIn_app (goodIn_of _ (by decide +kernel)) ggX8_write_X8_in
theorem dX8_write_0 : decode cX8_write 0 = .ok (.aload_n 0, 1) := by decide +kernel
theorem dX8_write_1 : decode cX8_write 1 = .ok (.iload_n 1, 1) := by decide +kernel
theorem dX8_write_2 : decode cX8_write 2 = .ok (.invokevirtual 249, 3) := by decide +kernel
theorem dX8_write_5 : decode cX8_write 5 = .ok (.istore 4, 2) := by decide +kernel
theorem dX8_write_7 : decode cX8_write 7 = .ok (.iload 4, 2) := by decide +kernel
theorem dX8_write_9 : decode cX8_write 9 = .ok (.ifCond .lt 10, 3) := by decide +kernel
theorem dX8_write_12 : decode cX8_write 12 = .ok (.aload_n 0, 1) := by decide +kernel
theorem dX8_write_13 : decode cX8_write 13 = .ok (.iload 4, 2) := by decide +kernel
theorem dX8_write_15 : decode cX8_write 15 = .ok (.invokevirtual 93, 3) := by decide +kernel
theorem dX8_write_18 : decode cX8_write 18 = .ok (.ireturn, 1) := by decide +kernel
theorem dX8_write_19 : decode cX8_write 19 = .ok (.iload_n 2, 1) := by decide +kernel
theorem dX8_write_20 : decode cX8_write 20 = .ok (.i2l, 1) := by decide +kernel
theorem dX8_write_21 : decode cX8_write 21 = .ok (.lconst 0, 1) := by decide +kernel
theorem dX8_write_22 : decode cX8_write 22 = .ok (.aload_n 0, 1) := by decide +kernel
theorem dX8_write_23 : decode cX8_write 23 = .ok (.getfield 42, 3) := by decide +kernel
theorem dX8_write_26 : decode cX8_write 26 = .ok (.iload_n 1, 1) := by decide +kernel
theorem dX8_write_27 : decode cX8_write 27 = .ok (.iaload, 1) := by decide +kernel
theorem dX8_write_28 : decode cX8_write 28 = .ok (.iconst 1, 1) := by decide +kernel
theorem dX8_write_29 : decode cX8_write 29 = .ok (.isub, 1) := by decide +kernel
theorem dX8_write_30 : decode cX8_write 30 = .ok (.i2l, 1) := by decide +kernel
theorem dX8_write_31 : decode cX8_write 31 = .ok (.invokestatic 58, 3) := by decide +kernel
theorem dX8_write_34 : decode cX8_write 34 = .ok (.ifCond .ne 9, 3) := by decide +kernel
theorem dX8_write_37 : decode cX8_write 37 = .ok (.aload_n 0, 1) := by decide +kernel
theorem dX8_write_38 : decode cX8_write 38 = .ok (.iconst 0, 1) := by decide +kernel
theorem dX8_write_39 : decode cX8_write 39 = .ok (.invokevirtual 93, 3) := by decide +kernel
theorem dX8_write_42 : decode cX8_write 42 = .ok (.ireturn, 1) := by decide +kernel
theorem dX8_write_43 : decode cX8_write 43 = .ok (.aload_n 0, 1) := by decide +kernel
theorem dX8_write_44 : decode cX8_write 44 = .ok (.getfield 45, 3) := by decide +kernel
theorem dX8_write_47 : decode cX8_write 47 = .ok (.bipush 40, 2) := by decide +kernel
theorem dX8_write_49 : decode cX8_write 49 = .ok (.iload_n 1, 1) := by decide +kernel
theorem dX8_write_50 : decode cX8_write 50 = .ok (.imul, 1) := by decide +kernel
theorem dX8_write_51 : decode cX8_write 51 = .ok (.iload_n 2, 1) := by decide +kernel
theorem dX8_write_52 : decode cX8_write 52 = .ok (.iadd, 1) := by decide +kernel
theorem dX8_write_53 : decode cX8_write 53 = .ok (.aload_n 0, 1) := by decide +kernel
theorem dX8_write_54 : decode cX8_write 54 = .ok (.getfield 39, 3) := by decide +kernel
theorem dX8_write_57 : decode cX8_write 57 = .ok (.iload_n 1, 1) := by decide +kernel
theorem dX8_write_58 : decode cX8_write 58 = .ok (.iaload, 1) := by decide +kernel
theorem dX8_write_59 : decode cX8_write 59 = .ok (.bipush 8, 2) := by decide +kernel
theorem dX8_write_61 : decode cX8_write 61 = .ok (.if_icmp .ne 8, 3) := by decide +kernel
theorem dX8_write_64 : decode cX8_write 64 = .ok (.iload_n 3, 1) := by decide +kernel
theorem dX8_write_65 : decode cX8_write 65 = .ok (.i2b, 1) := by decide +kernel
theorem dX8_write_66 : decode cX8_write 66 = .ok (.goto 20, 3) := by decide +kernel
theorem dX8_write_69 : decode cX8_write 69 = .ok (.aload_n 0, 1) := by decide +kernel
theorem dX8_write_70 : decode cX8_write 70 = .ok (.getfield 39, 3) := by decide +kernel
theorem dX8_write_73 : decode cX8_write 73 = .ok (.iload_n 1, 1) := by decide +kernel
theorem dX8_write_74 : decode cX8_write 74 = .ok (.iaload, 1) := by decide +kernel
theorem dX8_write_75 : decode cX8_write 75 = .ok (.bipush 16, 2) := by decide +kernel
theorem dX8_write_77 : decode cX8_write 77 = .ok (.if_icmp .ne 8, 3) := by decide +kernel
theorem dX8_write_80 : decode cX8_write 80 = .ok (.iload_n 3, 1) := by decide +kernel
theorem dX8_write_81 : decode cX8_write 81 = .ok (.i2s, 1) := by decide +kernel
theorem dX8_write_82 : decode cX8_write 82 = .ok (.goto 4, 3) := by decide +kernel
theorem dX8_write_85 : decode cX8_write 85 = .ok (.iload_n 3, 1) := by decide +kernel
theorem dX8_write_86 : decode cX8_write 86 = .ok (.iastore, 1) := by decide +kernel
theorem dX8_write_87 : decode cX8_write 87 = .ok (.iconst 1, 1) := by decide +kernel
theorem dX8_write_88 : decode cX8_write 88 = .ok (.ireturn, 1) := by decide +kernel
set_option maxRecDepth 20000 in
theorem ggX8_copy_X8_isSheet : GoodIn wsX8_copy wsX8_isSheet := goodIn_r _ [8, 9, 10, 11, 7, 12] (by decide +kernel) (by decide +kernel)
set_option maxRecDepth 20000 in
theorem gX8_copy_X8_isSheet : GoodIn wsX8_copy (va_wsS RX8 357 yX8_isSheet wsX8_isSheet) := goodIn_app (goodIn_of _ (by decide +kernel)) ggX8_copy_X8_isSheet
set_option maxRecDepth 20000 in
theorem ggX8_copy_X8_finds : GoodIn wsX8_copy wsX8_finds := goodIn_r _ [16, 17, 18, 19, 20, 21, 22, 23, 24, 25, 26, 27, 28, 29, 30, 31, 32, 33, 34, 35, 36, 37, 38] (by decide +kernel) (by decide +kernel)
set_option maxRecDepth 20000 in
theorem gX8_copy_X8_finds : GoodIn wsX8_copy (wsV RX8 93 RX8 yX8_finds wsX8_finds) := goodIn_app (goodIn_of _ (by decide +kernel)) ggX8_copy_X8_finds
theorem dX8_copy_0 : decode cX8_copy 0 = .ok (.iload_n 1, 1) := by decide +kernel
theorem dX8_copy_1 : decode cX8_copy 1 = .ok (.invokestatic 357, 3) := by decide +kernel
theorem dX8_copy_4 : decode cX8_copy 4 = .ok (.ifCond .eq 10, 3) := by decide +kernel
theorem dX8_copy_7 : decode cX8_copy 7 = .ok (.iload_n 3, 1) := by decide +kernel
theorem dX8_copy_8 : decode cX8_copy 8 = .ok (.invokestatic 357, 3) := by decide +kernel
theorem dX8_copy_11 : decode cX8_copy 11 = .ok (.ifCond .ne 9, 3) := by decide +kernel
theorem dX8_copy_14 : decode cX8_copy 14 = .ok (.aload_n 0, 1) := by decide +kernel
theorem dX8_copy_15 : decode cX8_copy 15 = .ok (.iconst 0, 1) := by decide +kernel
theorem dX8_copy_16 : decode cX8_copy 16 = .ok (.invokevirtual 93, 3) := by decide +kernel
theorem dX8_copy_19 : decode cX8_copy 19 = .ok (.ireturn, 1) := by decide +kernel
theorem dX8_copy_20 : decode cX8_copy 20 = .ok (.aload_n 0, 1) := by decide +kernel
theorem dX8_copy_21 : decode cX8_copy 21 = .ok (.getfield 39, 3) := by decide +kernel
theorem dX8_copy_24 : decode cX8_copy 24 = .ok (.iload_n 1, 1) := by decide +kernel
theorem dX8_copy_25 : decode cX8_copy 25 = .ok (.iaload, 1) := by decide +kernel
theorem dX8_copy_26 : decode cX8_copy 26 = .ok (.ifCond .eq 12, 3) := by decide +kernel
theorem dX8_copy_29 : decode cX8_copy 29 = .ok (.aload_n 0, 1) := by decide +kernel
theorem dX8_copy_30 : decode cX8_copy 30 = .ok (.getfield 39, 3) := by decide +kernel
theorem dX8_copy_33 : decode cX8_copy 33 = .ok (.iload_n 3, 1) := by decide +kernel
theorem dX8_copy_34 : decode cX8_copy 34 = .ok (.iaload, 1) := by decide +kernel
theorem dX8_copy_35 : decode cX8_copy 35 = .ok (.ifCond .ne 9, 3) := by decide +kernel
theorem dX8_copy_38 : decode cX8_copy 38 = .ok (.aload_n 0, 1) := by decide +kernel
theorem dX8_copy_39 : decode cX8_copy 39 = .ok (.iconst 5, 1) := by decide +kernel
theorem dX8_copy_40 : decode cX8_copy 40 = .ok (.invokevirtual 93, 3) := by decide +kernel
theorem dX8_copy_43 : decode cX8_copy 43 = .ok (.ireturn, 1) := by decide +kernel
theorem dX8_copy_44 : decode cX8_copy 44 = .ok (.aload_n 0, 1) := by decide +kernel
theorem dX8_copy_45 : decode cX8_copy 45 = .ok (.getfield 39, 3) := by decide +kernel
theorem dX8_copy_48 : decode cX8_copy 48 = .ok (.iload_n 1, 1) := by decide +kernel
theorem dX8_copy_49 : decode cX8_copy 49 = .ok (.iaload, 1) := by decide +kernel
theorem dX8_copy_50 : decode cX8_copy 50 = .ok (.aload_n 0, 1) := by decide +kernel
theorem dX8_copy_51 : decode cX8_copy 51 = .ok (.getfield 39, 3) := by decide +kernel
theorem dX8_copy_54 : decode cX8_copy 54 = .ok (.iload_n 3, 1) := by decide +kernel
theorem dX8_copy_55 : decode cX8_copy 55 = .ok (.iaload, 1) := by decide +kernel
theorem dX8_copy_56 : decode cX8_copy 56 = .ok (.if_icmp .eq 9, 3) := by decide +kernel
theorem dX8_copy_59 : decode cX8_copy 59 = .ok (.aload_n 0, 1) := by decide +kernel
theorem dX8_copy_60 : decode cX8_copy 60 = .ok (.iconst 2, 1) := by decide +kernel
theorem dX8_copy_61 : decode cX8_copy 61 = .ok (.invokevirtual 93, 3) := by decide +kernel
theorem dX8_copy_64 : decode cX8_copy 64 = .ok (.ireturn, 1) := by decide +kernel
theorem dX8_copy_65 : decode cX8_copy 65 = .ok (.iload 5, 2) := by decide +kernel
theorem dX8_copy_67 : decode cX8_copy 67 = .ok (.ifCond .lt 51, 3) := by decide +kernel
theorem dX8_copy_70 : decode cX8_copy 70 = .ok (.iload_n 2, 1) := by decide +kernel
theorem dX8_copy_71 : decode cX8_copy 71 = .ok (.ifCond .lt 47, 3) := by decide +kernel
theorem dX8_copy_74 : decode cX8_copy 74 = .ok (.iload 4, 2) := by decide +kernel
theorem dX8_copy_76 : decode cX8_copy 76 = .ok (.ifCond .lt 42, 3) := by decide +kernel
theorem dX8_copy_79 : decode cX8_copy 79 = .ok (.iload_n 2, 1) := by decide +kernel
theorem dX8_copy_80 : decode cX8_copy 80 = .ok (.i2l, 1) := by decide +kernel
theorem dX8_copy_81 : decode cX8_copy 81 = .ok (.iload 5, 2) := by decide +kernel
theorem dX8_copy_83 : decode cX8_copy 83 = .ok (.i2l, 1) := by decide +kernel
theorem dX8_copy_84 : decode cX8_copy 84 = .ok (.ladd, 1) := by decide +kernel
theorem dX8_copy_85 : decode cX8_copy 85 = .ok (.aload_n 0, 1) := by decide +kernel
theorem dX8_copy_86 : decode cX8_copy 86 = .ok (.getfield 42, 3) := by decide +kernel
theorem dX8_copy_89 : decode cX8_copy 89 = .ok (.iload_n 1, 1) := by decide +kernel
theorem dX8_copy_90 : decode cX8_copy 90 = .ok (.iaload, 1) := by decide +kernel
theorem dX8_copy_91 : decode cX8_copy 91 = .ok (.i2l, 1) := by decide +kernel
theorem dX8_copy_92 : decode cX8_copy 92 = .ok (.lcmp, 1) := by decide +kernel
theorem dX8_copy_93 : decode cX8_copy 93 = .ok (.ifCond .gt 25, 3) := by decide +kernel
theorem dX8_copy_96 : decode cX8_copy 96 = .ok (.iload 4, 2) := by decide +kernel
theorem dX8_copy_98 : decode cX8_copy 98 = .ok (.i2l, 1) := by decide +kernel
theorem dX8_copy_99 : decode cX8_copy 99 = .ok (.iload 5, 2) := by decide +kernel
theorem dX8_copy_101 : decode cX8_copy 101 = .ok (.i2l, 1) := by decide +kernel
theorem dX8_copy_102 : decode cX8_copy 102 = .ok (.ladd, 1) := by decide +kernel
theorem dX8_copy_103 : decode cX8_copy 103 = .ok (.aload_n 0, 1) := by decide +kernel
theorem dX8_copy_104 : decode cX8_copy 104 = .ok (.getfield 42, 3) := by decide +kernel
theorem dX8_copy_107 : decode cX8_copy 107 = .ok (.iload_n 3, 1) := by decide +kernel
theorem dX8_copy_108 : decode cX8_copy 108 = .ok (.iaload, 1) := by decide +kernel
theorem dX8_copy_109 : decode cX8_copy 109 = .ok (.i2l, 1) := by decide +kernel
theorem dX8_copy_110 : decode cX8_copy 110 = .ok (.lcmp, 1) := by decide +kernel
theorem dX8_copy_111 : decode cX8_copy 111 = .ok (.ifCond .gt 7, 3) := by decide +kernel
theorem dX8_copy_114 : decode cX8_copy 114 = .ok (.iconst 1, 1) := by decide +kernel
theorem dX8_copy_115 : decode cX8_copy 115 = .ok (.goto 4, 3) := by decide +kernel
theorem dX8_copy_118 : decode cX8_copy 118 = .ok (.iconst 0, 1) := by decide +kernel
theorem dX8_copy_119 : decode cX8_copy 119 = .ok (.istore 6, 2) := by decide +kernel
theorem dX8_copy_121 : decode cX8_copy 121 = .ok (.iload 6, 2) := by decide +kernel
theorem dX8_copy_123 : decode cX8_copy 123 = .ok (.ifCond .ne 9, 3) := by decide +kernel
theorem dX8_copy_126 : decode cX8_copy 126 = .ok (.aload_n 0, 1) := by decide +kernel
theorem dX8_copy_127 : decode cX8_copy 127 = .ok (.iconst 0, 1) := by decide +kernel
theorem dX8_copy_128 : decode cX8_copy 128 = .ok (.invokevirtual 93, 3) := by decide +kernel
theorem dX8_copy_131 : decode cX8_copy 131 = .ok (.ireturn, 1) := by decide +kernel
theorem dX8_copy_132 : decode cX8_copy 132 = .ok (.iconst 0, 1) := by decide +kernel
theorem dX8_copy_133 : decode cX8_copy 133 = .ok (.istore 7, 2) := by decide +kernel
theorem dX8_copy_135 : decode cX8_copy 135 = .ok (.iload 7, 2) := by decide +kernel
theorem dX8_copy_137 : decode cX8_copy 137 = .ok (.iload 5, 2) := by decide +kernel
theorem dX8_copy_139 : decode cX8_copy 139 = .ok (.if_icmp .ge 30, 3) := by decide +kernel
theorem dX8_copy_142 : decode cX8_copy 142 = .ok (.aload_n 0, 1) := by decide +kernel
theorem dX8_copy_143 : decode cX8_copy 143 = .ok (.getfield 48, 3) := by decide +kernel
theorem dX8_copy_146 : decode cX8_copy 146 = .ok (.iload 7, 2) := by decide +kernel
theorem dX8_copy_148 : decode cX8_copy 148 = .ok (.aload_n 0, 1) := by decide +kernel
theorem dX8_copy_149 : decode cX8_copy 149 = .ok (.getfield 45, 3) := by decide +kernel
theorem dX8_copy_152 : decode cX8_copy 152 = .ok (.bipush 40, 2) := by decide +kernel
theorem dX8_copy_154 : decode cX8_copy 154 = .ok (.iload_n 1, 1) := by decide +kernel
theorem dX8_copy_155 : decode cX8_copy 155 = .ok (.imul, 1) := by decide +kernel
theorem dX8_copy_156 : decode cX8_copy 156 = .ok (.iload_n 2, 1) := by decide +kernel
theorem dX8_copy_157 : decode cX8_copy 157 = .ok (.iadd, 1) := by decide +kernel
theorem dX8_copy_158 : decode cX8_copy 158 = .ok (.iload 7, 2) := by decide +kernel
theorem dX8_copy_160 : decode cX8_copy 160 = .ok (.iadd, 1) := by decide +kernel
theorem dX8_copy_161 : decode cX8_copy 161 = .ok (.iaload, 1) := by decide +kernel
theorem dX8_copy_162 : decode cX8_copy 162 = .ok (.iastore, 1) := by decide +kernel
theorem dX8_copy_163 : decode cX8_copy 163 = .ok (.iinc 7 1, 3) := by decide +kernel
theorem dX8_copy_166 : decode cX8_copy 166 = .ok (.goto (-31), 3) := by decide +kernel
theorem dX8_copy_169 : decode cX8_copy 169 = .ok (.iconst 0, 1) := by decide +kernel
theorem dX8_copy_170 : decode cX8_copy 170 = .ok (.istore 7, 2) := by decide +kernel
theorem dX8_copy_172 : decode cX8_copy 172 = .ok (.iload 7, 2) := by decide +kernel
theorem dX8_copy_174 : decode cX8_copy 174 = .ok (.iload 5, 2) := by decide +kernel
theorem dX8_copy_176 : decode cX8_copy 176 = .ok (.if_icmp .ge 31, 3) := by decide +kernel
theorem dX8_copy_179 : decode cX8_copy 179 = .ok (.aload_n 0, 1) := by decide +kernel
theorem dX8_copy_180 : decode cX8_copy 180 = .ok (.getfield 45, 3) := by decide +kernel
theorem dX8_copy_183 : decode cX8_copy 183 = .ok (.bipush 40, 2) := by decide +kernel
theorem dX8_copy_185 : decode cX8_copy 185 = .ok (.iload_n 3, 1) := by decide +kernel
theorem dX8_copy_186 : decode cX8_copy 186 = .ok (.imul, 1) := by decide +kernel
theorem dX8_copy_187 : decode cX8_copy 187 = .ok (.iload 4, 2) := by decide +kernel
theorem dX8_copy_189 : decode cX8_copy 189 = .ok (.iadd, 1) := by decide +kernel
theorem dX8_copy_190 : decode cX8_copy 190 = .ok (.iload 7, 2) := by decide +kernel
theorem dX8_copy_192 : decode cX8_copy 192 = .ok (.iadd, 1) := by decide +kernel
theorem dX8_copy_193 : decode cX8_copy 193 = .ok (.aload_n 0, 1) := by decide +kernel
theorem dX8_copy_194 : decode cX8_copy 194 = .ok (.getfield 48, 3) := by decide +kernel
theorem dX8_copy_197 : decode cX8_copy 197 = .ok (.iload 7, 2) := by decide +kernel
theorem dX8_copy_199 : decode cX8_copy 199 = .ok (.iaload, 1) := by decide +kernel
theorem dX8_copy_200 : decode cX8_copy 200 = .ok (.iastore, 1) := by decide +kernel
theorem dX8_copy_201 : decode cX8_copy 201 = .ok (.iinc 7 1, 3) := by decide +kernel
theorem dX8_copy_204 : decode cX8_copy 204 = .ok (.goto (-32), 3) := by decide +kernel
theorem dX8_copy_207 : decode cX8_copy 207 = .ok (.iload 5, 2) := by decide +kernel
theorem dX8_copy_209 : decode cX8_copy 209 = .ok (.ireturn, 1) := by decide +kernel
set_option maxRecDepth 20000 in
theorem ggX8_load_X8_lacks : GoodIn wsX8_load wsX8_lacks := goodIn_r _ [9, 10, 11, 12, 8, 13, 14, 15, 16, 17, 24, 25, 26, 27, 28, 29, 30, 31, 32, 33, 34, 35, 36, 37, 38, 39, 40, 41, 42, 43] (by decide +kernel) (by decide +kernel)
set_option maxRecDepth 20000 in
theorem gX8_load_X8_lacks : GoodIn wsX8_load (wsV RX8 249 RX8 yX8_lacks wsX8_lacks) := goodIn_app (goodIn_of _ (by decide +kernel)) ggX8_load_X8_lacks
set_option maxRecDepth 20000 in
theorem ggX8_load_X8_finds : GoodIn wsX8_load wsX8_finds := goodIn_r _ [21, 22, 23, 24, 25, 26, 27, 28, 29, 30, 31, 32, 33, 34, 35, 36, 37, 38, 39, 40, 41, 42, 43] (by decide +kernel) (by decide +kernel)
set_option maxRecDepth 20000 in
theorem gX8_load_X8_finds : GoodIn wsX8_load (wsV RX8 93 RX8 yX8_finds wsX8_finds) := goodIn_app (goodIn_of _ (by decide +kernel)) ggX8_load_X8_finds
set_option maxRecDepth 20000 in
theorem ggX8_load_X8_in : GoodIn wsX8_load wsX8_in := goodIn_r _ [17] (by decide +kernel) (by decide +kernel)
set_option maxRecDepth 20000 in
theorem gX8_load_X8_in : GoodIn wsX8_load (va_wsS RX8 58 yX8_in wsX8_in) := goodIn_app (goodIn_of _ (by decide +kernel)) ggX8_load_X8_in
theorem dX8_load_0 : decode cX8_load 0 = .ok (.aload_n 0, 1) := by decide +kernel
theorem dX8_load_1 : decode cX8_load 1 = .ok (.iload_n 1, 1) := by decide +kernel
theorem dX8_load_2 : decode cX8_load 2 = .ok (.invokevirtual 249, 3) := by decide +kernel
theorem dX8_load_5 : decode cX8_load 5 = .ok (.istore_n 2, 1) := by decide +kernel
theorem dX8_load_6 : decode cX8_load 6 = .ok (.iload_n 2, 1) := by decide +kernel
theorem dX8_load_7 : decode cX8_load 7 = .ok (.ifCond .lt 9, 3) := by decide +kernel
theorem dX8_load_10 : decode cX8_load 10 = .ok (.aload_n 0, 1) := by decide +kernel
theorem dX8_load_11 : decode cX8_load 11 = .ok (.iload_n 2, 1) := by decide +kernel
theorem dX8_load_12 : decode cX8_load 12 = .ok (.invokevirtual 93, 3) := by decide +kernel
theorem dX8_load_15 : decode cX8_load 15 = .ok (.ireturn, 1) := by decide +kernel
theorem dX8_load_16 : decode cX8_load 16 = .ok (.iconst 0, 1) := by decide +kernel
theorem dX8_load_17 : decode cX8_load 17 = .ok (.istore_n 3, 1) := by decide +kernel
theorem dX8_load_18 : decode cX8_load 18 = .ok (.iload_n 3, 1) := by decide +kernel
theorem dX8_load_19 : decode cX8_load 19 = .ok (.aload_n 0, 1) := by decide +kernel
theorem dX8_load_20 : decode cX8_load 20 = .ok (.getfield 42, 3) := by decide +kernel
theorem dX8_load_23 : decode cX8_load 23 = .ok (.iload_n 1, 1) := by decide +kernel
theorem dX8_load_24 : decode cX8_load 24 = .ok (.iaload, 1) := by decide +kernel
theorem dX8_load_25 : decode cX8_load 25 = .ok (.if_icmp .ge 51, 3) := by decide +kernel
theorem dX8_load_28 : decode cX8_load 28 = .ok (.aload_n 0, 1) := by decide +kernel
theorem dX8_load_29 : decode cX8_load 29 = .ok (.getfield 45, 3) := by decide +kernel
theorem dX8_load_32 : decode cX8_load 32 = .ok (.bipush 40, 2) := by decide +kernel
theorem dX8_load_34 : decode cX8_load 34 = .ok (.iload_n 1, 1) := by decide +kernel
theorem dX8_load_35 : decode cX8_load 35 = .ok (.imul, 1) := by decide +kernel
theorem dX8_load_36 : decode cX8_load 36 = .ok (.iload_n 3, 1) := by decide +kernel
theorem dX8_load_37 : decode cX8_load 37 = .ok (.iadd, 1) := by decide +kernel
theorem dX8_load_38 : decode cX8_load 38 = .ok (.iaload, 1) := by decide +kernel
theorem dX8_load_39 : decode cX8_load 39 = .ok (.i2l, 1) := by decide +kernel
theorem dX8_load_40 : decode cX8_load 40 = .ok (.lconst 0, 1) := by decide +kernel
theorem dX8_load_41 : decode cX8_load 41 = .ok (.ldc2_w 89, 3) := by decide +kernel
theorem dX8_load_44 : decode cX8_load 44 = .ok (.invokestatic 58, 3) := by decide +kernel
theorem dX8_load_47 : decode cX8_load 47 = .ok (.ifCond .eq 29, 3) := by decide +kernel
theorem dX8_load_50 : decode cX8_load 50 = .ok (.aload_n 0, 1) := by decide +kernel
theorem dX8_load_51 : decode cX8_load 51 = .ok (.getfield 9, 3) := by decide +kernel
theorem dX8_load_54 : decode cX8_load 54 = .ok (.bipush 9, 2) := by decide +kernel
theorem dX8_load_56 : decode cX8_load 56 = .ok (.iload_n 3, 1) := by decide +kernel
theorem dX8_load_57 : decode cX8_load 57 = .ok (.iadd, 1) := by decide +kernel
theorem dX8_load_58 : decode cX8_load 58 = .ok (.aload_n 0, 1) := by decide +kernel
theorem dX8_load_59 : decode cX8_load 59 = .ok (.getfield 45, 3) := by decide +kernel
theorem dX8_load_62 : decode cX8_load 62 = .ok (.bipush 40, 2) := by decide +kernel
theorem dX8_load_64 : decode cX8_load 64 = .ok (.iload_n 1, 1) := by decide +kernel
theorem dX8_load_65 : decode cX8_load 65 = .ok (.imul, 1) := by decide +kernel
theorem dX8_load_66 : decode cX8_load 66 = .ok (.iload_n 3, 1) := by decide +kernel
theorem dX8_load_67 : decode cX8_load 67 = .ok (.iadd, 1) := by decide +kernel
theorem dX8_load_68 : decode cX8_load 68 = .ok (.iaload, 1) := by decide +kernel
theorem dX8_load_69 : decode cX8_load 69 = .ok (.iastore, 1) := by decide +kernel
theorem dX8_load_70 : decode cX8_load 70 = .ok (.iinc 3 1, 3) := by decide +kernel
theorem dX8_load_73 : decode cX8_load 73 = .ok (.goto (-55), 3) := by decide +kernel
theorem dX8_load_76 : decode cX8_load 76 = .ok (.iload_n 3, 1) := by decide +kernel
theorem dX8_load_77 : decode cX8_load 77 = .ok (.ireturn, 1) := by decide +kernel
set_option maxRecDepth 20000 in
theorem ggX8_goesOn_X8_isCell : GoodIn wsX8_goesOn wsX8_isCell := goodIn_r _ [5, 6, 7, 8, 4, 9] (by decide +kernel) (by decide +kernel)
set_option maxRecDepth 20000 in
theorem gX8_goesOn_X8_isCell : GoodIn wsX8_goesOn (va_wsS RX8 85 yX8_isCell wsX8_isCell) := goodIn_app (goodIn_of _ (by decide +kernel)) ggX8_goesOn_X8_isCell
set_option maxRecDepth 20000 in
theorem ggX8_goesOn_X8_isSeen : GoodIn wsX8_goesOn wsX8_isSeen := goodIn_r _ [13, 14, 15, 16, 4, 17, 18, 19, 20, 21, 22, 23, 24, 25, 26, 27, 28, 29, 30, 31, 32, 33, 34, 35, 36, 37, 38, 39, 40, 41, 42, 43, 44, 45, 46, 47, 48, 49] (by decide +kernel) (by decide +kernel)
set_option maxRecDepth 20000 in
theorem gX8_goesOn_X8_isSeen : GoodIn wsX8_goesOn (wsV RX8 126 RX8 yX8_isSeen wsX8_isSeen) := goodIn_app (goodIn_of _ (by decide +kernel)) ggX8_goesOn_X8_isSeen
set_option maxRecDepth 20000 in
theorem ggX8_goesOn_X8_apart : GoodIn wsX8_goesOn wsX8_apart := goodIn_r _ [25, 26, 27, 28, 29] (by decide +kernel) (by decide +kernel)
set_option maxRecDepth 20000 in
theorem gX8_goesOn_X8_apart : GoodIn wsX8_goesOn (va_wsS RX8 70 yX8_apart wsX8_apart) := goodIn_app (goodIn_of _ (by decide +kernel)) ggX8_goesOn_X8_apart
theorem dX8_goesOn_0 : decode cX8_goesOn 0 = .ok (.aload_n 0, 1) := by decide +kernel
theorem dX8_goesOn_1 : decode cX8_goesOn 1 = .ok (.getfield 45, 3) := by decide +kernel
theorem dX8_goesOn_4 : decode cX8_goesOn 4 = .ok (.bipush 40, 2) := by decide +kernel
theorem dX8_goesOn_6 : decode cX8_goesOn 6 = .ok (.iload_n 1, 1) := by decide +kernel
theorem dX8_goesOn_7 : decode cX8_goesOn 7 = .ok (.imul, 1) := by decide +kernel
theorem dX8_goesOn_8 : decode cX8_goesOn 8 = .ok (.iload_n 2, 1) := by decide +kernel
theorem dX8_goesOn_9 : decode cX8_goesOn 9 = .ok (.iadd, 1) := by decide +kernel
theorem dX8_goesOn_10 : decode cX8_goesOn 10 = .ok (.iaload, 1) := by decide +kernel
theorem dX8_goesOn_11 : decode cX8_goesOn 11 = .ok (.istore_n 3, 1) := by decide +kernel
theorem dX8_goesOn_12 : decode cX8_goesOn 12 = .ok (.iload_n 3, 1) := by decide +kernel
theorem dX8_goesOn_13 : decode cX8_goesOn 13 = .ok (.invokestatic 85, 3) := by decide +kernel
theorem dX8_goesOn_16 : decode cX8_goesOn 16 = .ok (.ifCond .eq 11, 3) := by decide +kernel
theorem dX8_goesOn_19 : decode cX8_goesOn 19 = .ok (.aload_n 0, 1) := by decide +kernel
theorem dX8_goesOn_20 : decode cX8_goesOn 20 = .ok (.iload_n 3, 1) := by decide +kernel
theorem dX8_goesOn_21 : decode cX8_goesOn 21 = .ok (.invokevirtual 126, 3) := by decide +kernel
theorem dX8_goesOn_24 : decode cX8_goesOn 24 = .ok (.ifCond .eq 5, 3) := by decide +kernel
theorem dX8_goesOn_27 : decode cX8_goesOn 27 = .ok (.iconst 0, 1) := by decide +kernel
theorem dX8_goesOn_28 : decode cX8_goesOn 28 = .ok (.ireturn, 1) := by decide +kernel
theorem dX8_goesOn_29 : decode cX8_goesOn 29 = .ok (.iload_n 2, 1) := by decide +kernel
theorem dX8_goesOn_30 : decode cX8_goesOn 30 = .ok (.ifCond .eq 24, 3) := by decide +kernel
theorem dX8_goesOn_33 : decode cX8_goesOn 33 = .ok (.iload_n 3, 1) := by decide +kernel
theorem dX8_goesOn_34 : decode cX8_goesOn 34 = .ok (.aload_n 0, 1) := by decide +kernel
theorem dX8_goesOn_35 : decode cX8_goesOn 35 = .ok (.getfield 45, 3) := by decide +kernel
theorem dX8_goesOn_38 : decode cX8_goesOn 38 = .ok (.bipush 40, 2) := by decide +kernel
theorem dX8_goesOn_40 : decode cX8_goesOn 40 = .ok (.iload_n 1, 1) := by decide +kernel
theorem dX8_goesOn_41 : decode cX8_goesOn 41 = .ok (.imul, 1) := by decide +kernel
theorem dX8_goesOn_42 : decode cX8_goesOn 42 = .ok (.iload_n 2, 1) := by decide +kernel
theorem dX8_goesOn_43 : decode cX8_goesOn 43 = .ok (.iadd, 1) := by decide +kernel
theorem dX8_goesOn_44 : decode cX8_goesOn 44 = .ok (.iconst 1, 1) := by decide +kernel
theorem dX8_goesOn_45 : decode cX8_goesOn 45 = .ok (.isub, 1) := by decide +kernel
theorem dX8_goesOn_46 : decode cX8_goesOn 46 = .ok (.iaload, 1) := by decide +kernel
theorem dX8_goesOn_47 : decode cX8_goesOn 47 = .ok (.invokestatic 70, 3) := by decide +kernel
theorem dX8_goesOn_50 : decode cX8_goesOn 50 = .ok (.iconst 1, 1) := by decide +kernel
theorem dX8_goesOn_51 : decode cX8_goesOn 51 = .ok (.if_icmp .ne 7, 3) := by decide +kernel
theorem dX8_goesOn_54 : decode cX8_goesOn 54 = .ok (.iconst 1, 1) := by decide +kernel
theorem dX8_goesOn_55 : decode cX8_goesOn 55 = .ok (.goto 4, 3) := by decide +kernel
theorem dX8_goesOn_58 : decode cX8_goesOn 58 = .ok (.iconst 0, 1) := by decide +kernel
theorem dX8_goesOn_59 : decode cX8_goesOn 59 = .ok (.ireturn, 1) := by decide +kernel
set_option maxRecDepth 20000 in
theorem ggX8_judge_X8_lacks : GoodIn wsX8_judge wsX8_lacks := goodIn_r _ [6, 7, 8, 9, 5, 10, 11, 12, 13, 14, 50, 51, 52, 53, 54, 55, 56, 57, 58, 59, 60, 61, 62, 63, 64, 65, 66, 67, 68, 69] (by decide +kernel) (by decide +kernel)
set_option maxRecDepth 20000 in
theorem gX8_judge_X8_lacks : GoodIn wsX8_judge (wsV RX8 249 RX8 yX8_lacks wsX8_lacks) := goodIn_app (goodIn_of _ (by decide +kernel)) ggX8_judge_X8_lacks
set_option maxRecDepth 20000 in
theorem ggX8_judge_X8_finds : GoodIn wsX8_judge wsX8_finds := goodIn_r _ [18, 19, 20, 50, 51, 52, 53, 54, 55, 56, 57, 58, 59, 60, 61, 62, 63, 64, 65, 66, 67, 68, 69] (by decide +kernel) (by decide +kernel)
set_option maxRecDepth 20000 in
theorem gX8_judge_X8_finds : GoodIn wsX8_judge (wsV RX8 93 RX8 yX8_finds wsX8_finds) := goodIn_app (goodIn_of _ (by decide +kernel)) ggX8_judge_X8_finds
set_option maxRecDepth 20000 in
theorem ggX8_judge_X8_goesOn : GoodIn wsX8_judge wsX8_goesOn := goodIn_r _ [24, 25, 26, 27, 5, 28, 29, 12, 13, 14, 30, 31, 32, 33, 34, 35, 36, 37, 38, 39, 40, 41, 42, 43, 44, 45, 46, 47, 48, 49, 50, 51, 52, 53, 54, 55, 56, 57, 58, 59, 60, 61, 62, 63, 64, 65, 66, 67, 68, 69] (by decide +kernel) (by decide +kernel)
set_option maxRecDepth 20000 in
theorem gX8_judge_X8_goesOn : GoodIn wsX8_judge (wsV RX8 360 RX8 yX8_goesOn wsX8_goesOn) := goodIn_app (goodIn_of _ (by decide +kernel)) ggX8_judge_X8_goesOn
theorem dX8_judge_0 : decode cX8_judge 0 = .ok (.aload_n 0, 1) := by decide +kernel
theorem dX8_judge_1 : decode cX8_judge 1 = .ok (.iload_n 1, 1) := by decide +kernel
theorem dX8_judge_2 : decode cX8_judge 2 = .ok (.invokevirtual 249, 3) := by decide +kernel
theorem dX8_judge_5 : decode cX8_judge 5 = .ok (.istore_n 2, 1) := by decide +kernel
theorem dX8_judge_6 : decode cX8_judge 6 = .ok (.iload_n 2, 1) := by decide +kernel
theorem dX8_judge_7 : decode cX8_judge 7 = .ok (.ifCond .lt 9, 3) := by decide +kernel
theorem dX8_judge_10 : decode cX8_judge 10 = .ok (.aload_n 0, 1) := by decide +kernel
theorem dX8_judge_11 : decode cX8_judge 11 = .ok (.iload_n 2, 1) := by decide +kernel
theorem dX8_judge_12 : decode cX8_judge 12 = .ok (.invokevirtual 93, 3) := by decide +kernel
theorem dX8_judge_15 : decode cX8_judge 15 = .ok (.ireturn, 1) := by decide +kernel
theorem dX8_judge_16 : decode cX8_judge 16 = .ok (.iconst 0, 1) := by decide +kernel
theorem dX8_judge_17 : decode cX8_judge 17 = .ok (.istore_n 3, 1) := by decide +kernel
theorem dX8_judge_18 : decode cX8_judge 18 = .ok (.iload_n 3, 1) := by decide +kernel
theorem dX8_judge_19 : decode cX8_judge 19 = .ok (.aload_n 0, 1) := by decide +kernel
theorem dX8_judge_20 : decode cX8_judge 20 = .ok (.getfield 42, 3) := by decide +kernel
theorem dX8_judge_23 : decode cX8_judge 23 = .ok (.iload_n 1, 1) := by decide +kernel
theorem dX8_judge_24 : decode cX8_judge 24 = .ok (.iaload, 1) := by decide +kernel
theorem dX8_judge_25 : decode cX8_judge 25 = .ok (.if_icmp .ge 18, 3) := by decide +kernel
theorem dX8_judge_28 : decode cX8_judge 28 = .ok (.aload_n 0, 1) := by decide +kernel
theorem dX8_judge_29 : decode cX8_judge 29 = .ok (.iload_n 1, 1) := by decide +kernel
theorem dX8_judge_30 : decode cX8_judge 30 = .ok (.iload_n 3, 1) := by decide +kernel
theorem dX8_judge_31 : decode cX8_judge 31 = .ok (.invokevirtual 360, 3) := by decide +kernel
theorem dX8_judge_34 : decode cX8_judge 34 = .ok (.ifCond .eq 9, 3) := by decide +kernel
theorem dX8_judge_37 : decode cX8_judge 37 = .ok (.iinc 3 1, 3) := by decide +kernel
theorem dX8_judge_40 : decode cX8_judge 40 = .ok (.goto (-22), 3) := by decide +kernel
theorem dX8_judge_43 : decode cX8_judge 43 = .ok (.iload_n 3, 1) := by decide +kernel
theorem dX8_judge_44 : decode cX8_judge 44 = .ok (.aload_n 0, 1) := by decide +kernel
theorem dX8_judge_45 : decode cX8_judge 45 = .ok (.getfield 42, 3) := by decide +kernel
theorem dX8_judge_48 : decode cX8_judge 48 = .ok (.iload_n 1, 1) := by decide +kernel
theorem dX8_judge_49 : decode cX8_judge 49 = .ok (.iaload, 1) := by decide +kernel
theorem dX8_judge_50 : decode cX8_judge 50 = .ok (.if_icmp .ne 7, 3) := by decide +kernel
theorem dX8_judge_53 : decode cX8_judge 53 = .ok (.iconst 0, 1) := by decide +kernel
theorem dX8_judge_54 : decode cX8_judge 54 = .ok (.goto 6, 3) := by decide +kernel
theorem dX8_judge_57 : decode cX8_judge 57 = .ok (.iload_n 3, 1) := by decide +kernel
theorem dX8_judge_58 : decode cX8_judge 58 = .ok (.iconst 1, 1) := by decide +kernel
theorem dX8_judge_59 : decode cX8_judge 59 = .ok (.iadd, 1) := by decide +kernel
theorem dX8_judge_60 : decode cX8_judge 60 = .ok (.ireturn, 1) := by decide +kernel
set_option maxRecDepth 20000 in
theorem ggX8_image_X8_become : GoodIn wsX8_image wsX8_become := goodIn_r _ [7] (by decide +kernel) (by decide +kernel)
set_option maxRecDepth 20000 in
theorem gX8_image_X8_become : GoodIn wsX8_image (va_wsS RX8 52 yX8_become wsX8_become) := goodIn_app (goodIn_of _ (by decide +kernel)) ggX8_image_X8_become
theorem dX8_image_0 : decode cX8_image 0 = .ok (.aload_n 0, 1) := by decide +kernel
theorem dX8_image_1 : decode cX8_image 1 = .ok (.getfield 9, 3) := by decide +kernel
theorem dX8_image_4 : decode cX8_image 4 = .ok (.aload_n 0, 1) := by decide +kernel
theorem dX8_image_5 : decode cX8_image 5 = .ok (.getfield 13, 3) := by decide +kernel
theorem dX8_image_8 : decode cX8_image 8 = .ok (.invokestatic 52, 3) := by decide +kernel
theorem dX8_image_11 : decode cX8_image 11 = .ok (.aload_n 0, 1) := by decide +kernel
theorem dX8_image_12 : decode cX8_image 12 = .ok (.iconst 1, 1) := by decide +kernel
theorem dX8_image_13 : decode cX8_image 13 = .ok (.putfield 363, 3) := by decide +kernel
theorem dX8_image_16 : decode cX8_image 16 = .ok (.iconst 1, 1) := by decide +kernel
theorem dX8_image_17 : decode cX8_image 17 = .ok (.ireturn, 1) := by decide +kernel
set_option maxRecDepth 20000 in
theorem ggX8_undo_X8_finds : GoodIn wsX8_undo wsX8_finds := goodIn_r _ [8, 9, 10, 14, 15, 16, 17, 18, 19, 20, 21, 22, 23, 24, 25, 26, 27, 28, 29, 30, 31, 32, 33] (by decide +kernel) (by decide +kernel)
set_option maxRecDepth 20000 in
theorem gX8_undo_X8_finds : GoodIn wsX8_undo (wsV RX8 93 RX8 yX8_finds wsX8_finds) := goodIn_app (goodIn_of _ (by decide +kernel)) ggX8_undo_X8_finds
set_option maxRecDepth 20000 in
theorem ggX8_undo_X8_become : GoodIn wsX8_undo wsX8_become := goodIn_r _ [13] (by decide +kernel) (by decide +kernel)
set_option maxRecDepth 20000 in
theorem gX8_undo_X8_become : GoodIn wsX8_undo (va_wsS RX8 52 yX8_become wsX8_become) := goodIn_app (goodIn_of _ (by decide +kernel)) ggX8_undo_X8_become
theorem dX8_undo_0 : decode cX8_undo 0 = .ok (.aload_n 0, 1) := by decide +kernel
theorem dX8_undo_1 : decode cX8_undo 1 = .ok (.getfield 363, 3) := by decide +kernel
theorem dX8_undo_4 : decode cX8_undo 4 = .ok (.ifCond .ne 9, 3) := by decide +kernel
theorem dX8_undo_7 : decode cX8_undo 7 = .ok (.aload_n 0, 1) := by decide +kernel
theorem dX8_undo_8 : decode cX8_undo 8 = .ok (.iconst 3, 1) := by decide +kernel
theorem dX8_undo_9 : decode cX8_undo 9 = .ok (.invokevirtual 93, 3) := by decide +kernel
theorem dX8_undo_12 : decode cX8_undo 12 = .ok (.ireturn, 1) := by decide +kernel
theorem dX8_undo_13 : decode cX8_undo 13 = .ok (.aload_n 0, 1) := by decide +kernel
theorem dX8_undo_14 : decode cX8_undo 14 = .ok (.getfield 13, 3) := by decide +kernel
theorem dX8_undo_17 : decode cX8_undo 17 = .ok (.aload_n 0, 1) := by decide +kernel
theorem dX8_undo_18 : decode cX8_undo 18 = .ok (.getfield 9, 3) := by decide +kernel
theorem dX8_undo_21 : decode cX8_undo 21 = .ok (.invokestatic 52, 3) := by decide +kernel
theorem dX8_undo_24 : decode cX8_undo 24 = .ok (.aload_n 0, 1) := by decide +kernel
theorem dX8_undo_25 : decode cX8_undo 25 = .ok (.getfield 9, 3) := by decide +kernel
theorem dX8_undo_28 : decode cX8_undo 28 = .ok (.iconst 0, 1) := by decide +kernel
theorem dX8_undo_29 : decode cX8_undo 29 = .ok (.iaload, 1) := by decide +kernel
theorem dX8_undo_30 : decode cX8_undo 30 = .ok (.ireturn, 1) := by decide +kernel
theorem dX8_tear_0 : decode cX8_tear 0 = .ok (.aload_n 0, 1) := by decide +kernel
theorem dX8_tear_1 : decode cX8_tear 1 = .ok (.getfield 363, 3) := by decide +kernel
theorem dX8_tear_4 : decode cX8_tear 4 = .ok (.ifCond .eq 7, 3) := by decide +kernel
theorem dX8_tear_7 : decode cX8_tear 7 = .ok (.iconst 1, 1) := by decide +kernel
theorem dX8_tear_8 : decode cX8_tear 8 = .ok (.goto 4, 3) := by decide +kernel
theorem dX8_tear_11 : decode cX8_tear 11 = .ok (.iconst 0, 1) := by decide +kernel
theorem dX8_tear_12 : decode cX8_tear 12 = .ok (.istore_n 1, 1) := by decide +kernel
theorem dX8_tear_13 : decode cX8_tear 13 = .ok (.aload_n 0, 1) := by decide +kernel
theorem dX8_tear_14 : decode cX8_tear 14 = .ok (.iconst 0, 1) := by decide +kernel
theorem dX8_tear_15 : decode cX8_tear 15 = .ok (.putfield 363, 3) := by decide +kernel
theorem dX8_tear_18 : decode cX8_tear 18 = .ok (.iload_n 1, 1) := by decide +kernel
theorem dX8_tear_19 : decode cX8_tear 19 = .ok (.ireturn, 1) := by decide +kernel
theorem dX8_allSteam_0 : decode cX8_allSteam 0 = .ok (.iconst 0, 1) := by decide +kernel
theorem dX8_allSteam_1 : decode cX8_allSteam 1 = .ok (.istore_n 1, 1) := by decide +kernel
theorem dX8_allSteam_2 : decode cX8_allSteam 2 = .ok (.iconst 0, 1) := by decide +kernel
theorem dX8_allSteam_3 : decode cX8_allSteam 3 = .ok (.istore_n 2, 1) := by decide +kernel
theorem dX8_allSteam_4 : decode cX8_allSteam 4 = .ok (.iload_n 2, 1) := by decide +kernel
theorem dX8_allSteam_5 : decode cX8_allSteam 5 = .ok (.bipush 48, 2) := by decide +kernel
theorem dX8_allSteam_7 : decode cX8_allSteam 7 = .ok (.if_icmp .ge 21, 3) := by decide +kernel
theorem dX8_allSteam_10 : decode cX8_allSteam 10 = .ok (.iload_n 1, 1) := by decide +kernel
theorem dX8_allSteam_11 : decode cX8_allSteam 11 = .ok (.aload_n 0, 1) := by decide +kernel
theorem dX8_allSteam_12 : decode cX8_allSteam 12 = .ok (.getfield 9, 3) := by decide +kernel
theorem dX8_allSteam_15 : decode cX8_allSteam 15 = .ok (.bipush 9, 2) := by decide +kernel
theorem dX8_allSteam_17 : decode cX8_allSteam 17 = .ok (.iload_n 2, 1) := by decide +kernel
theorem dX8_allSteam_18 : decode cX8_allSteam 18 = .ok (.iadd, 1) := by decide +kernel
theorem dX8_allSteam_19 : decode cX8_allSteam 19 = .ok (.iaload, 1) := by decide +kernel
theorem dX8_allSteam_20 : decode cX8_allSteam 20 = .ok (.iadd, 1) := by decide +kernel
theorem dX8_allSteam_21 : decode cX8_allSteam 21 = .ok (.istore_n 1, 1) := by decide +kernel
theorem dX8_allSteam_22 : decode cX8_allSteam 22 = .ok (.iinc 2 1, 3) := by decide +kernel
theorem dX8_allSteam_25 : decode cX8_allSteam 25 = .ok (.goto (-21), 3) := by decide +kernel
theorem dX8_allSteam_28 : decode cX8_allSteam 28 = .ok (.iload_n 1, 1) := by decide +kernel
theorem dX8_allSteam_29 : decode cX8_allSteam 29 = .ok (.ireturn, 1) := by decide +kernel
theorem dX8_held_0 : decode cX8_held 0 = .ok (.iconst 0, 1) := by decide +kernel
theorem dX8_held_1 : decode cX8_held 1 = .ok (.istore_n 1, 1) := by decide +kernel
theorem dX8_held_2 : decode cX8_held 2 = .ok (.iconst 0, 1) := by decide +kernel
theorem dX8_held_3 : decode cX8_held 3 = .ok (.istore_n 2, 1) := by decide +kernel
theorem dX8_held_4 : decode cX8_held 4 = .ok (.iload_n 2, 1) := by decide +kernel
theorem dX8_held_5 : decode cX8_held 5 = .ok (.bipush 10, 2) := by decide +kernel
theorem dX8_held_7 : decode cX8_held 7 = .ok (.if_icmp .ge 30, 3) := by decide +kernel
theorem dX8_held_10 : decode cX8_held 10 = .ok (.iload_n 1, 1) := by decide +kernel
theorem dX8_held_11 : decode cX8_held 11 = .ok (.aload_n 0, 1) := by decide +kernel
theorem dX8_held_12 : decode cX8_held 12 = .ok (.getfield 9, 3) := by decide +kernel
theorem dX8_held_15 : decode cX8_held 15 = .ok (.sipush 145, 3) := by decide +kernel
theorem dX8_held_18 : decode cX8_held 18 = .ok (.iload_n 2, 1) := by decide +kernel
theorem dX8_held_19 : decode cX8_held 19 = .ok (.iadd, 1) := by decide +kernel
theorem dX8_held_20 : decode cX8_held 20 = .ok (.iaload, 1) := by decide +kernel
theorem dX8_held_21 : decode cX8_held 21 = .ok (.ifCond .ge 7, 3) := by decide +kernel
theorem dX8_held_24 : decode cX8_held 24 = .ok (.iconst 0, 1) := by decide +kernel
theorem dX8_held_25 : decode cX8_held 25 = .ok (.goto 4, 3) := by decide +kernel
theorem dX8_held_28 : decode cX8_held 28 = .ok (.iconst 1, 1) := by decide +kernel
theorem dX8_held_29 : decode cX8_held 29 = .ok (.iadd, 1) := by decide +kernel
theorem dX8_held_30 : decode cX8_held 30 = .ok (.istore_n 1, 1) := by decide +kernel
theorem dX8_held_31 : decode cX8_held 31 = .ok (.iinc 2 1, 3) := by decide +kernel
theorem dX8_held_34 : decode cX8_held 34 = .ok (.goto (-30), 3) := by decide +kernel
theorem dX8_held_37 : decode cX8_held 37 = .ok (.iload_n 1, 1) := by decide +kernel
theorem dX8_held_38 : decode cX8_held 38 = .ok (.ireturn, 1) := by decide +kernel
set_option maxRecDepth 20000 in
theorem ggX8_count_X8_outMany : GoodIn wsX8_count wsX8_outMany := goodIn_r _ [7, 1, 8, 9, 10, 6, 11, 12, 13, 14, 15, 30, 31, 32, 33, 34, 35, 36, 37, 38, 39, 40, 41, 42, 43, 44, 45, 46, 47, 48, 49] (by decide +kernel) (by decide +kernel)
set_option maxRecDepth 20000 in
theorem gX8_count_X8_outMany : GoodIn wsX8_count (wsV RX8 184 RX8 yX8_outMany wsX8_outMany) := goodIn_app (goodIn_of _ (by decide +kernel)) ggX8_count_X8_outMany
set_option maxRecDepth 20000 in
theorem ggX8_count_X8_allSteam : GoodIn wsX8_count wsX8_allSteam := goodIn_r _ [19, 1, 30, 31, 32, 33, 34, 35, 36, 37, 38, 39, 40, 41, 42, 43, 44, 45, 46, 47, 48, 49] (by decide +kernel) (by decide +kernel)
set_option maxRecDepth 20000 in
theorem gX8_count_X8_allSteam : GoodIn wsX8_count (wsV RX8 366 RX8 yX8_allSteam wsX8_allSteam) := goodIn_app (goodIn_of _ (by decide +kernel)) ggX8_count_X8_allSteam
set_option maxRecDepth 20000 in
theorem ggX8_count_X8_held : GoodIn wsX8_count wsX8_held := goodIn_r _ [23, 1, 30, 31, 32, 33, 34, 35, 36, 37, 38, 39, 40, 41, 42, 43, 44, 45, 46, 47, 48, 49] (by decide +kernel) (by decide +kernel)
set_option maxRecDepth 20000 in
theorem gX8_count_X8_held : GoodIn wsX8_count (wsV RX8 369 RX8 yX8_held wsX8_held) := goodIn_app (goodIn_of _ (by decide +kernel)) ggX8_count_X8_held
set_option maxRecDepth 20000 in
theorem ggX8_count_X8_finds : GoodIn wsX8_count wsX8_finds := goodIn_r _ [27, 28, 29, 30, 31, 32, 33, 34, 35, 36, 37, 38, 39, 40, 41, 42, 43, 44, 45, 46, 47, 48, 49] (by decide +kernel) (by decide +kernel)
set_option maxRecDepth 20000 in
theorem gX8_count_X8_finds : GoodIn wsX8_count (wsV RX8 93 RX8 yX8_finds wsX8_finds) := goodIn_app (goodIn_of _ (by decide +kernel)) ggX8_count_X8_finds
theorem dX8_count_0 : decode cX8_count 0 = .ok (.iload_n 1, 1) := by decide +kernel
theorem dX8_count_1 : decode cX8_count 1 = .ok (.tableswitch 95 0 7 #[47, 54, 61, 66, 73, 78, 83, 90], 47) := by decide +kernel
theorem dX8_count_48 : decode cX8_count 48 = .ok (.aload_n 0, 1) := by decide +kernel
theorem dX8_count_49 : decode cX8_count 49 = .ok (.getfield 9, 3) := by decide +kernel
theorem dX8_count_52 : decode cX8_count 52 = .ok (.iconst 0, 1) := by decide +kernel
theorem dX8_count_53 : decode cX8_count 53 = .ok (.iaload, 1) := by decide +kernel
theorem dX8_count_54 : decode cX8_count 54 = .ok (.ireturn, 1) := by decide +kernel
theorem dX8_count_55 : decode cX8_count 55 = .ok (.aload_n 0, 1) := by decide +kernel
theorem dX8_count_56 : decode cX8_count 56 = .ok (.getfield 9, 3) := by decide +kernel
theorem dX8_count_59 : decode cX8_count 59 = .ok (.iconst 1, 1) := by decide +kernel
theorem dX8_count_60 : decode cX8_count 60 = .ok (.iaload, 1) := by decide +kernel
theorem dX8_count_61 : decode cX8_count 61 = .ok (.ireturn, 1) := by decide +kernel
theorem dX8_count_62 : decode cX8_count 62 = .ok (.aload_n 0, 1) := by decide +kernel
theorem dX8_count_63 : decode cX8_count 63 = .ok (.invokevirtual 184, 3) := by decide +kernel
theorem dX8_count_66 : decode cX8_count 66 = .ok (.ireturn, 1) := by decide +kernel
theorem dX8_count_67 : decode cX8_count 67 = .ok (.aload_n 0, 1) := by decide +kernel
theorem dX8_count_68 : decode cX8_count 68 = .ok (.getfield 9, 3) := by decide +kernel
theorem dX8_count_71 : decode cX8_count 71 = .ok (.iconst 3, 1) := by decide +kernel
theorem dX8_count_72 : decode cX8_count 72 = .ok (.iaload, 1) := by decide +kernel
theorem dX8_count_73 : decode cX8_count 73 = .ok (.ireturn, 1) := by decide +kernel
theorem dX8_count_74 : decode cX8_count 74 = .ok (.aload_n 0, 1) := by decide +kernel
theorem dX8_count_75 : decode cX8_count 75 = .ok (.invokevirtual 366, 3) := by decide +kernel
theorem dX8_count_78 : decode cX8_count 78 = .ok (.ireturn, 1) := by decide +kernel
theorem dX8_count_79 : decode cX8_count 79 = .ok (.aload_n 0, 1) := by decide +kernel
theorem dX8_count_80 : decode cX8_count 80 = .ok (.getfield 265, 3) := by decide +kernel
theorem dX8_count_83 : decode cX8_count 83 = .ok (.ireturn, 1) := by decide +kernel
theorem dX8_count_84 : decode cX8_count 84 = .ok (.aload_n 0, 1) := by decide +kernel
theorem dX8_count_85 : decode cX8_count 85 = .ok (.getfield 9, 3) := by decide +kernel
theorem dX8_count_88 : decode cX8_count 88 = .ok (.iconst 4, 1) := by decide +kernel
theorem dX8_count_89 : decode cX8_count 89 = .ok (.iaload, 1) := by decide +kernel
theorem dX8_count_90 : decode cX8_count 90 = .ok (.ireturn, 1) := by decide +kernel
theorem dX8_count_91 : decode cX8_count 91 = .ok (.aload_n 0, 1) := by decide +kernel
theorem dX8_count_92 : decode cX8_count 92 = .ok (.invokevirtual 369, 3) := by decide +kernel
theorem dX8_count_95 : decode cX8_count 95 = .ok (.ireturn, 1) := by decide +kernel
theorem dX8_count_96 : decode cX8_count 96 = .ok (.aload_n 0, 1) := by decide +kernel
theorem dX8_count_97 : decode cX8_count 97 = .ok (.iconst 0, 1) := by decide +kernel
theorem dX8_count_98 : decode cX8_count 98 = .ok (.invokevirtual 93, 3) := by decide +kernel
theorem dX8_count_101 : decode cX8_count 101 = .ok (.ireturn, 1) := by decide +kernel
set_option maxRecDepth 20000 in
theorem ggX8_status_X8_in : GoodIn wsX8_status wsX8_in := goodIn_r _ [7] (by decide +kernel) (by decide +kernel)
set_option maxRecDepth 20000 in
theorem gX8_status_X8_in : GoodIn wsX8_status (va_wsS RX8 58 yX8_in wsX8_in) := goodIn_app (goodIn_of _ (by decide +kernel)) ggX8_status_X8_in
set_option maxRecDepth 20000 in
theorem ggX8_status_X8_finds : GoodIn wsX8_status wsX8_finds := goodIn_r _ [11, 3, 12, 13, 14, 15, 16, 17, 18, 19, 20, 21, 22, 23, 24, 25, 26, 27, 28, 29, 30, 31, 32] (by decide +kernel) (by decide +kernel)
set_option maxRecDepth 20000 in
theorem gX8_status_X8_finds : GoodIn wsX8_status (wsV RX8 93 RX8 yX8_finds wsX8_finds) := goodIn_app (goodIn_of _ (by decide +kernel)) ggX8_status_X8_finds
theorem dX8_status_0 : decode cX8_status 0 = .ok (.iload_n 1, 1) := by decide +kernel
theorem dX8_status_1 : decode cX8_status 1 = .ok (.i2l, 1) := by decide +kernel
theorem dX8_status_2 : decode cX8_status 2 = .ok (.ldc2_w 108, 3) := by decide +kernel
theorem dX8_status_5 : decode cX8_status 5 = .ok (.ldc2_w 115, 3) := by decide +kernel
theorem dX8_status_8 : decode cX8_status 8 = .ok (.invokestatic 58, 3) := by decide +kernel
theorem dX8_status_11 : decode cX8_status 11 = .ok (.ifCond .ne 9, 3) := by decide +kernel
theorem dX8_status_14 : decode cX8_status 14 = .ok (.aload_n 0, 1) := by decide +kernel
theorem dX8_status_15 : decode cX8_status 15 = .ok (.iconst 0, 1) := by decide +kernel
theorem dX8_status_16 : decode cX8_status 16 = .ok (.invokevirtual 93, 3) := by decide +kernel
theorem dX8_status_19 : decode cX8_status 19 = .ok (.ireturn, 1) := by decide +kernel
theorem dX8_status_20 : decode cX8_status 20 = .ok (.iconst 0, 1) := by decide +kernel
theorem dX8_status_21 : decode cX8_status 21 = .ok (.istore_n 2, 1) := by decide +kernel
theorem dX8_status_22 : decode cX8_status 22 = .ok (.iconst 0, 1) := by decide +kernel
theorem dX8_status_23 : decode cX8_status 23 = .ok (.istore_n 3, 1) := by decide +kernel
theorem dX8_status_24 : decode cX8_status 24 = .ok (.iload_n 3, 1) := by decide +kernel
theorem dX8_status_25 : decode cX8_status 25 = .ok (.bipush 7, 2) := by decide +kernel
theorem dX8_status_27 : decode cX8_status 27 = .ok (.if_icmp .ge 31, 3) := by decide +kernel
theorem dX8_status_30 : decode cX8_status 30 = .ok (.iload_n 2, 1) := by decide +kernel
theorem dX8_status_31 : decode cX8_status 31 = .ok (.iload_n 1, 1) := by decide +kernel
theorem dX8_status_32 : decode cX8_status 32 = .ok (.ifCond .lt 8, 3) := by decide +kernel
theorem dX8_status_35 : decode cX8_status 35 = .ok (.iload_n 1, 1) := by decide +kernel
theorem dX8_status_36 : decode cX8_status 36 = .ok (.iload_n 3, 1) := by decide +kernel
theorem dX8_status_37 : decode cX8_status 37 = .ok (.if_icmp .ne 12, 3) := by decide +kernel
theorem dX8_status_40 : decode cX8_status 40 = .ok (.aload_n 0, 1) := by decide +kernel
theorem dX8_status_41 : decode cX8_status 41 = .ok (.getfield 19, 3) := by decide +kernel
theorem dX8_status_44 : decode cX8_status 44 = .ok (.iload_n 3, 1) := by decide +kernel
theorem dX8_status_45 : decode cX8_status 45 = .ok (.iaload, 1) := by decide +kernel
theorem dX8_status_46 : decode cX8_status 46 = .ok (.goto 4, 3) := by decide +kernel
theorem dX8_status_49 : decode cX8_status 49 = .ok (.iconst 0, 1) := by decide +kernel
theorem dX8_status_50 : decode cX8_status 50 = .ok (.iadd, 1) := by decide +kernel
theorem dX8_status_51 : decode cX8_status 51 = .ok (.istore_n 2, 1) := by decide +kernel
theorem dX8_status_52 : decode cX8_status 52 = .ok (.iinc 3 1, 3) := by decide +kernel
theorem dX8_status_55 : decode cX8_status 55 = .ok (.goto (-31), 3) := by decide +kernel
theorem dX8_status_58 : decode cX8_status 58 = .ok (.iload_n 2, 1) := by decide +kernel
theorem dX8_status_59 : decode cX8_status 59 = .ok (.ireturn, 1) := by decide +kernel
theorem dJ6_bitCount_0f7a4_0 : decode cJ6_bitCount_0f7a4 0 = .ok (.iload_n 0, 1) := by decide +kernel
theorem dJ6_bitCount_0f7a4_1 : decode cJ6_bitCount_0f7a4 1 = .ok (.iload_n 0, 1) := by decide +kernel
theorem dJ6_bitCount_0f7a4_2 : decode cJ6_bitCount_0f7a4 2 = .ok (.iconst 1, 1) := by decide +kernel
theorem dJ6_bitCount_0f7a4_3 : decode cJ6_bitCount_0f7a4 3 = .ok (.iushr, 1) := by decide +kernel
theorem dJ6_bitCount_0f7a4_4 : decode cJ6_bitCount_0f7a4 4 = .ok (.ldc_w 265, 3) := by decide +kernel
theorem dJ6_bitCount_0f7a4_7 : decode cJ6_bitCount_0f7a4 7 = .ok (.iand, 1) := by decide +kernel
theorem dJ6_bitCount_0f7a4_8 : decode cJ6_bitCount_0f7a4 8 = .ok (.isub, 1) := by decide +kernel
theorem dJ6_bitCount_0f7a4_9 : decode cJ6_bitCount_0f7a4 9 = .ok (.istore_n 0, 1) := by decide +kernel
theorem dJ6_bitCount_0f7a4_10 : decode cJ6_bitCount_0f7a4 10 = .ok (.iload_n 0, 1) := by decide +kernel
theorem dJ6_bitCount_0f7a4_11 : decode cJ6_bitCount_0f7a4 11 = .ok (.ldc_w 266, 3) := by decide +kernel
theorem dJ6_bitCount_0f7a4_14 : decode cJ6_bitCount_0f7a4 14 = .ok (.iand, 1) := by decide +kernel
theorem dJ6_bitCount_0f7a4_15 : decode cJ6_bitCount_0f7a4 15 = .ok (.iload_n 0, 1) := by decide +kernel
theorem dJ6_bitCount_0f7a4_16 : decode cJ6_bitCount_0f7a4 16 = .ok (.iconst 2, 1) := by decide +kernel
theorem dJ6_bitCount_0f7a4_17 : decode cJ6_bitCount_0f7a4 17 = .ok (.iushr, 1) := by decide +kernel
theorem dJ6_bitCount_0f7a4_18 : decode cJ6_bitCount_0f7a4 18 = .ok (.ldc_w 266, 3) := by decide +kernel
theorem dJ6_bitCount_0f7a4_21 : decode cJ6_bitCount_0f7a4 21 = .ok (.iand, 1) := by decide +kernel
theorem dJ6_bitCount_0f7a4_22 : decode cJ6_bitCount_0f7a4 22 = .ok (.iadd, 1) := by decide +kernel
theorem dJ6_bitCount_0f7a4_23 : decode cJ6_bitCount_0f7a4 23 = .ok (.istore_n 0, 1) := by decide +kernel
theorem dJ6_bitCount_0f7a4_24 : decode cJ6_bitCount_0f7a4 24 = .ok (.iload_n 0, 1) := by decide +kernel
theorem dJ6_bitCount_0f7a4_25 : decode cJ6_bitCount_0f7a4 25 = .ok (.iload_n 0, 1) := by decide +kernel
theorem dJ6_bitCount_0f7a4_26 : decode cJ6_bitCount_0f7a4 26 = .ok (.iconst 4, 1) := by decide +kernel
theorem dJ6_bitCount_0f7a4_27 : decode cJ6_bitCount_0f7a4 27 = .ok (.iushr, 1) := by decide +kernel
theorem dJ6_bitCount_0f7a4_28 : decode cJ6_bitCount_0f7a4 28 = .ok (.iadd, 1) := by decide +kernel
theorem dJ6_bitCount_0f7a4_29 : decode cJ6_bitCount_0f7a4 29 = .ok (.ldc_w 267, 3) := by decide +kernel
theorem dJ6_bitCount_0f7a4_32 : decode cJ6_bitCount_0f7a4 32 = .ok (.iand, 1) := by decide +kernel
theorem dJ6_bitCount_0f7a4_33 : decode cJ6_bitCount_0f7a4 33 = .ok (.istore_n 0, 1) := by decide +kernel
theorem dJ6_bitCount_0f7a4_34 : decode cJ6_bitCount_0f7a4 34 = .ok (.iload_n 0, 1) := by decide +kernel
theorem dJ6_bitCount_0f7a4_35 : decode cJ6_bitCount_0f7a4 35 = .ok (.iload_n 0, 1) := by decide +kernel
theorem dJ6_bitCount_0f7a4_36 : decode cJ6_bitCount_0f7a4 36 = .ok (.bipush 8, 2) := by decide +kernel
theorem dJ6_bitCount_0f7a4_38 : decode cJ6_bitCount_0f7a4 38 = .ok (.iushr, 1) := by decide +kernel
theorem dJ6_bitCount_0f7a4_39 : decode cJ6_bitCount_0f7a4 39 = .ok (.iadd, 1) := by decide +kernel
theorem dJ6_bitCount_0f7a4_40 : decode cJ6_bitCount_0f7a4 40 = .ok (.istore_n 0, 1) := by decide +kernel
theorem dJ6_bitCount_0f7a4_41 : decode cJ6_bitCount_0f7a4 41 = .ok (.iload_n 0, 1) := by decide +kernel
theorem dJ6_bitCount_0f7a4_42 : decode cJ6_bitCount_0f7a4 42 = .ok (.iload_n 0, 1) := by decide +kernel
theorem dJ6_bitCount_0f7a4_43 : decode cJ6_bitCount_0f7a4 43 = .ok (.bipush 16, 2) := by decide +kernel
theorem dJ6_bitCount_0f7a4_45 : decode cJ6_bitCount_0f7a4 45 = .ok (.iushr, 1) := by decide +kernel
theorem dJ6_bitCount_0f7a4_46 : decode cJ6_bitCount_0f7a4 46 = .ok (.iadd, 1) := by decide +kernel
theorem dJ6_bitCount_0f7a4_47 : decode cJ6_bitCount_0f7a4 47 = .ok (.istore_n 0, 1) := by decide +kernel
theorem dJ6_bitCount_0f7a4_48 : decode cJ6_bitCount_0f7a4 48 = .ok (.iload_n 0, 1) := by decide +kernel
theorem dJ6_bitCount_0f7a4_49 : decode cJ6_bitCount_0f7a4 49 = .ok (.bipush 63, 2) := by decide +kernel
theorem dJ6_bitCount_0f7a4_51 : decode cJ6_bitCount_0f7a4 51 = .ok (.iand, 1) := by decide +kernel
theorem dJ6_bitCount_0f7a4_52 : decode cJ6_bitCount_0f7a4 52 = .ok (.ireturn, 1) := by decide +kernel
theorem dJ13_bitCount_95d88_0 : decode cJ13_bitCount_95d88 0 = .ok (.lload_n 0, 1) := by decide +kernel
theorem dJ13_bitCount_95d88_1 : decode cJ13_bitCount_95d88 1 = .ok (.lload_n 0, 1) := by decide +kernel
theorem dJ13_bitCount_95d88_2 : decode cJ13_bitCount_95d88 2 = .ok (.iconst 1, 1) := by decide +kernel
theorem dJ13_bitCount_95d88_3 : decode cJ13_bitCount_95d88 3 = .ok (.lushr, 1) := by decide +kernel
theorem dJ13_bitCount_95d88_4 : decode cJ13_bitCount_95d88 4 = .ok (.ldc2_w 314, 3) := by decide +kernel
theorem dJ13_bitCount_95d88_7 : decode cJ13_bitCount_95d88 7 = .ok (.land, 1) := by decide +kernel
theorem dJ13_bitCount_95d88_8 : decode cJ13_bitCount_95d88 8 = .ok (.lsub, 1) := by decide +kernel
theorem dJ13_bitCount_95d88_9 : decode cJ13_bitCount_95d88 9 = .ok (.lstore_n 0, 1) := by decide +kernel
theorem dJ13_bitCount_95d88_10 : decode cJ13_bitCount_95d88 10 = .ok (.lload_n 0, 1) := by decide +kernel
theorem dJ13_bitCount_95d88_11 : decode cJ13_bitCount_95d88 11 = .ok (.ldc2_w 316, 3) := by decide +kernel
theorem dJ13_bitCount_95d88_14 : decode cJ13_bitCount_95d88 14 = .ok (.land, 1) := by decide +kernel
theorem dJ13_bitCount_95d88_15 : decode cJ13_bitCount_95d88 15 = .ok (.lload_n 0, 1) := by decide +kernel
theorem dJ13_bitCount_95d88_16 : decode cJ13_bitCount_95d88 16 = .ok (.iconst 2, 1) := by decide +kernel
theorem dJ13_bitCount_95d88_17 : decode cJ13_bitCount_95d88 17 = .ok (.lushr, 1) := by decide +kernel
theorem dJ13_bitCount_95d88_18 : decode cJ13_bitCount_95d88 18 = .ok (.ldc2_w 316, 3) := by decide +kernel
theorem dJ13_bitCount_95d88_21 : decode cJ13_bitCount_95d88 21 = .ok (.land, 1) := by decide +kernel
theorem dJ13_bitCount_95d88_22 : decode cJ13_bitCount_95d88 22 = .ok (.ladd, 1) := by decide +kernel
theorem dJ13_bitCount_95d88_23 : decode cJ13_bitCount_95d88 23 = .ok (.lstore_n 0, 1) := by decide +kernel
theorem dJ13_bitCount_95d88_24 : decode cJ13_bitCount_95d88 24 = .ok (.lload_n 0, 1) := by decide +kernel
theorem dJ13_bitCount_95d88_25 : decode cJ13_bitCount_95d88 25 = .ok (.lload_n 0, 1) := by decide +kernel
theorem dJ13_bitCount_95d88_26 : decode cJ13_bitCount_95d88 26 = .ok (.iconst 4, 1) := by decide +kernel
theorem dJ13_bitCount_95d88_27 : decode cJ13_bitCount_95d88 27 = .ok (.lushr, 1) := by decide +kernel
theorem dJ13_bitCount_95d88_28 : decode cJ13_bitCount_95d88 28 = .ok (.ladd, 1) := by decide +kernel
theorem dJ13_bitCount_95d88_29 : decode cJ13_bitCount_95d88 29 = .ok (.ldc2_w 318, 3) := by decide +kernel
theorem dJ13_bitCount_95d88_32 : decode cJ13_bitCount_95d88 32 = .ok (.land, 1) := by decide +kernel
theorem dJ13_bitCount_95d88_33 : decode cJ13_bitCount_95d88 33 = .ok (.lstore_n 0, 1) := by decide +kernel
theorem dJ13_bitCount_95d88_34 : decode cJ13_bitCount_95d88 34 = .ok (.lload_n 0, 1) := by decide +kernel
theorem dJ13_bitCount_95d88_35 : decode cJ13_bitCount_95d88 35 = .ok (.lload_n 0, 1) := by decide +kernel
theorem dJ13_bitCount_95d88_36 : decode cJ13_bitCount_95d88 36 = .ok (.bipush 8, 2) := by decide +kernel
theorem dJ13_bitCount_95d88_38 : decode cJ13_bitCount_95d88 38 = .ok (.lushr, 1) := by decide +kernel
theorem dJ13_bitCount_95d88_39 : decode cJ13_bitCount_95d88 39 = .ok (.ladd, 1) := by decide +kernel
theorem dJ13_bitCount_95d88_40 : decode cJ13_bitCount_95d88 40 = .ok (.lstore_n 0, 1) := by decide +kernel
theorem dJ13_bitCount_95d88_41 : decode cJ13_bitCount_95d88 41 = .ok (.lload_n 0, 1) := by decide +kernel
theorem dJ13_bitCount_95d88_42 : decode cJ13_bitCount_95d88 42 = .ok (.lload_n 0, 1) := by decide +kernel
theorem dJ13_bitCount_95d88_43 : decode cJ13_bitCount_95d88 43 = .ok (.bipush 16, 2) := by decide +kernel
theorem dJ13_bitCount_95d88_45 : decode cJ13_bitCount_95d88 45 = .ok (.lushr, 1) := by decide +kernel
theorem dJ13_bitCount_95d88_46 : decode cJ13_bitCount_95d88 46 = .ok (.ladd, 1) := by decide +kernel
theorem dJ13_bitCount_95d88_47 : decode cJ13_bitCount_95d88 47 = .ok (.lstore_n 0, 1) := by decide +kernel
theorem dJ13_bitCount_95d88_48 : decode cJ13_bitCount_95d88 48 = .ok (.lload_n 0, 1) := by decide +kernel
theorem dJ13_bitCount_95d88_49 : decode cJ13_bitCount_95d88 49 = .ok (.lload_n 0, 1) := by decide +kernel
theorem dJ13_bitCount_95d88_50 : decode cJ13_bitCount_95d88 50 = .ok (.bipush 32, 2) := by decide +kernel
theorem dJ13_bitCount_95d88_52 : decode cJ13_bitCount_95d88 52 = .ok (.lushr, 1) := by decide +kernel
theorem dJ13_bitCount_95d88_53 : decode cJ13_bitCount_95d88 53 = .ok (.ladd, 1) := by decide +kernel
theorem dJ13_bitCount_95d88_54 : decode cJ13_bitCount_95d88 54 = .ok (.lstore_n 0, 1) := by decide +kernel
theorem dJ13_bitCount_95d88_55 : decode cJ13_bitCount_95d88 55 = .ok (.lload_n 0, 1) := by decide +kernel
theorem dJ13_bitCount_95d88_56 : decode cJ13_bitCount_95d88 56 = .ok (.l2i, 1) := by decide +kernel
theorem dJ13_bitCount_95d88_57 : decode cJ13_bitCount_95d88 57 = .ok (.bipush 127, 2) := by decide +kernel
theorem dJ13_bitCount_95d88_59 : decode cJ13_bitCount_95d88 59 = .ok (.iand, 1) := by decide +kernel
theorem dJ13_bitCount_95d88_60 : decode cJ13_bitCount_95d88 60 = .ok (.ireturn, 1) := by decide +kernel
theorem dJ9_abs_0f7a4_0 : decode cJ9_abs_0f7a4 0 = .ok (.iload_n 0, 1) := by decide +kernel
theorem dJ9_abs_0f7a4_1 : decode cJ9_abs_0f7a4 1 = .ok (.ifCond .ge 8, 3) := by decide +kernel
theorem dJ9_abs_0f7a4_4 : decode cJ9_abs_0f7a4 4 = .ok (.iload_n 0, 1) := by decide +kernel
theorem dJ9_abs_0f7a4_5 : decode cJ9_abs_0f7a4 5 = .ok (.ineg, 1) := by decide +kernel
theorem dJ9_abs_0f7a4_6 : decode cJ9_abs_0f7a4 6 = .ok (.goto 4, 3) := by decide +kernel
theorem dJ9_abs_0f7a4_9 : decode cJ9_abs_0f7a4 9 = .ok (.iload_n 0, 1) := by decide +kernel
theorem dJ9_abs_0f7a4_10 : decode cJ9_abs_0f7a4 10 = .ok (.ireturn, 1) := by decide +kernel
theorem dJ9_max_7cf53_0 : decode cJ9_max_7cf53 0 = .ok (.iload_n 0, 1) := by decide +kernel
theorem dJ9_max_7cf53_1 : decode cJ9_max_7cf53 1 = .ok (.iload_n 1, 1) := by decide +kernel
theorem dJ9_max_7cf53_2 : decode cJ9_max_7cf53 2 = .ok (.if_icmp .lt 7, 3) := by decide +kernel
theorem dJ9_max_7cf53_5 : decode cJ9_max_7cf53 5 = .ok (.iload_n 0, 1) := by decide +kernel
theorem dJ9_max_7cf53_6 : decode cJ9_max_7cf53 6 = .ok (.goto 4, 3) := by decide +kernel
theorem dJ9_max_7cf53_9 : decode cJ9_max_7cf53 9 = .ok (.iload_n 1, 1) := by decide +kernel
theorem dJ9_max_7cf53_10 : decode cJ9_max_7cf53 10 = .ok (.ireturn, 1) := by decide +kernel
theorem dJ9_min_7cf53_0 : decode cJ9_min_7cf53 0 = .ok (.iload_n 0, 1) := by decide +kernel
theorem dJ9_min_7cf53_1 : decode cJ9_min_7cf53 1 = .ok (.iload_n 1, 1) := by decide +kernel
theorem dJ9_min_7cf53_2 : decode cJ9_min_7cf53 2 = .ok (.if_icmp .gt 7, 3) := by decide +kernel
theorem dJ9_min_7cf53_5 : decode cJ9_min_7cf53 5 = .ok (.iload_n 0, 1) := by decide +kernel
theorem dJ9_min_7cf53_6 : decode cJ9_min_7cf53 6 = .ok (.goto 4, 3) := by decide +kernel
theorem dJ9_min_7cf53_9 : decode cJ9_min_7cf53 9 = .ok (.iload_n 1, 1) := by decide +kernel
theorem dJ9_min_7cf53_10 : decode cJ9_min_7cf53 10 = .ok (.ireturn, 1) := by decide +kernel
