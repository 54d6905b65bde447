/-! ===== the law's words are the tables' ===== -/
set_option maxRecDepth 20000 in
theorem wsL_in1 : GoodIn lw_tbl wsL_law_r1 := goodIn_p wsL_law_r1 [94, 97] rfl (by decide +kernel)
set_option maxRecDepth 20000 in
theorem wsL_in2 : GoodIn lw_tbl wsL_law_r2 := goodIn_p wsL_law_r2 [102] rfl (by decide +kernel)
set_option maxRecDepth 20000 in
theorem wsL_in3 : GoodIn lw_tbl wsL_law_r3 := goodIn_p wsL_law_r3 [179, 203] rfl (by decide +kernel)
set_option maxRecDepth 20000 in
theorem wsL_in4 : GoodIn lw_tbl wsL_law_r4 := goodIn_p wsL_law_r4 [216, 244, 261, 932] rfl (by decide +kernel)
set_option maxRecDepth 20000 in
theorem wsL_in5 : GoodIn lw_tbl wsL_law_r5 := goodIn_p wsL_law_r5 [322, 325, 328] rfl (by decide +kernel)
set_option maxRecDepth 20000 in
theorem wsL_in6 : GoodIn lw_tbl wsL_law_r6 := goodIn_p wsL_law_r6 [332, 336, 999, 1002, 1006, 1012] rfl (by decide +kernel)
set_option maxRecDepth 20000 in
theorem wsL_in7 : GoodIn lw_tbl wsL_law_r7 := goodIn_p wsL_law_r7 [1017, 340, 344, 347, 353, 350] rfl (by decide +kernel)
set_option maxRecDepth 20000 in
theorem wsL_in8 : GoodIn lw_tbl wsL_law_r8 := goodIn_p wsL_law_r8 [356, 360, 364, 367, 1021] rfl (by decide +kernel)
set_option maxRecDepth 20000 in
theorem wsL_in9 : GoodIn lw_tbl wsL_law_r9 := goodIn_p wsL_law_r9 [1026, 1030, 1033, 1038, 1042, 374] rfl (by decide +kernel)
set_option maxRecDepth 20000 in
theorem wsL_in10 : GoodIn lw_tbl wsL_law_r10 := goodIn_p wsL_law_r10 [377, 1046, 1049, 381, 1054] rfl (by decide +kernel)
set_option maxRecDepth 20000 in
theorem wsL_in11 : GoodIn lw_tbl wsL_law_r11 := goodIn_p wsL_law_r11 [385, 388, 392, 1059, 1062, 1067] rfl (by decide +kernel)
set_option maxRecDepth 20000 in
theorem wsL_in12 : GoodIn lw_tbl wsL_law_r12 := goodIn_p wsL_law_r12 [1071, 396, 400, 404] rfl (by decide +kernel)
set_option maxRecDepth 20000 in
theorem wsL_in13 : GoodIn lw_tbl wsL_law_r13 := goodIn_p wsL_law_r13 [408, 412, 416, 420, 425] rfl (by decide +kernel)
set_option maxRecDepth 20000 in
theorem wsL_in14 : GoodIn lw_tbl wsL_law_r14 := goodIn_p wsL_law_r14 [428, 431, 434, 438, 441, 445, 449] rfl (by decide +kernel)
set_option maxRecDepth 20000 in
theorem wsL_in15 : GoodIn lw_tbl wsL_law_r15 := goodIn_p wsL_law_r15 [454, 1075, 1079, 1083, 1087] rfl (by decide +kernel)
set_option maxRecDepth 20000 in
theorem wsL_in16 : GoodIn lw_tbl wsL_law_r16 := goodIn_p wsL_law_r16 [1091, 1095, 1099, 1102, 1105, 1110, 1114] rfl (by decide +kernel)
set_option maxRecDepth 20000 in
theorem wsL_in17 : GoodIn lw_tbl wsL_law_r17 := goodIn_p wsL_law_r17 [1118, 1122, 458, 462, 1126, 1129] rfl (by decide +kernel)
set_option maxRecDepth 20000 in
theorem wsL_in18 : GoodIn lw_tbl wsL_law_r18 := goodIn_p wsL_law_r18 [1132, 466, 471, 479, 475] rfl (by decide +kernel)
set_option maxRecDepth 20000 in
theorem wsL_in19 : GoodIn lw_tbl wsL_law_r19 := goodIn_p wsL_law_r19 [483, 488, 1137, 1143, 1147] rfl (by decide +kernel)
set_option maxRecDepth 20000 in
theorem wsL_in20 : GoodIn lw_tbl wsL_law_r20 := goodIn_p wsL_law_r20 [1152, 493, 497, 1156, 1160] rfl (by decide +kernel)
set_option maxRecDepth 20000 in
theorem wsL_in21 : GoodIn lw_tbl wsL_law_r21 := goodIn_p wsL_law_r21 [1164, 504, 1168, 508, 1172, 1175] rfl (by decide +kernel)
set_option maxRecDepth 20000 in
theorem wsL_in22 : GoodIn lw_tbl wsL_law_r22 := goodIn_p wsL_law_r22 [1180, 1183, 1187, 512, 516, 1191] rfl (by decide +kernel)
set_option maxRecDepth 20000 in
theorem wsL_in23 : GoodIn lw_tbl wsL_law_r23 := goodIn_p wsL_law_r23 [1195, 1199, 1203, 521, 525] rfl (by decide +kernel)
set_option maxRecDepth 20000 in
theorem wsL_in24 : GoodIn lw_tbl wsL_law_r24 := goodIn_p wsL_law_r24 [1207, 530, 1211, 535, 1215, 539] rfl (by decide +kernel)
set_option maxRecDepth 20000 in
theorem wsL_in25 : GoodIn lw_tbl wsL_law_r25 := goodIn_p wsL_law_r25 [1219, 543, 546, 550, 553, 559] rfl (by decide +kernel)
set_option maxRecDepth 20000 in
theorem wsL_in26 : GoodIn lw_tbl wsL_law_r26 := goodIn_p wsL_law_r26 [1223, 1227, 1231, 592, 1237] rfl (by decide +kernel)
set_option maxRecDepth 20000 in
theorem wsL_in27 : GoodIn lw_tbl wsL_law_r27 := goodIn_p wsL_law_r27 [1241, 567, 570, 1245, 576, 580] rfl (by decide +kernel)
set_option maxRecDepth 20000 in
theorem wsL_in28 : GoodIn lw_tbl wsL_law_r28 := goodIn_p wsL_law_r28 [585, 589, 597, 1249, 602] rfl (by decide +kernel)
set_option maxRecDepth 20000 in
theorem wsL_in29 : GoodIn lw_tbl wsL_law_r29 := goodIn_p wsL_law_r29 [606, 610, 1253, 614, 618] rfl (by decide +kernel)
set_option maxRecDepth 20000 in
theorem wsL_in30 : GoodIn lw_tbl wsL_law_r30 := goodIn_p wsL_law_r30 [1257, 1261, 623, 1265, 628, 632] rfl (by decide +kernel)
set_option maxRecDepth 20000 in
theorem wsL_in31 : GoodIn lw_tbl wsL_law_r31 := goodIn_p wsL_law_r31 [1269, 636, 640, 1273, 1276, 1280] rfl (by decide +kernel)
set_option maxRecDepth 20000 in
theorem wsL_in32 : GoodIn lw_tbl wsL_law_r32 := goodIn_p wsL_law_r32 [645, 648, 652, 656, 1284] rfl (by decide +kernel)
set_option maxRecDepth 20000 in
theorem wsL_in33 : GoodIn lw_tbl wsL_law_r33 := goodIn_p wsL_law_r33 [1288, 1291, 660, 664, 668, 1295] rfl (by decide +kernel)
set_option maxRecDepth 20000 in
theorem wsL_in34 : GoodIn lw_tbl wsL_law_r34 := goodIn_p wsL_law_r34 [672, 1299, 676, 680, 1303, 1307] rfl (by decide +kernel)
set_option maxRecDepth 20000 in
theorem wsL_in35 : GoodIn lw_tbl wsL_law_r35 := goodIn_p wsL_law_r35 [684, 1311, 689, 693, 1317] rfl (by decide +kernel)
set_option maxRecDepth 20000 in
theorem wsL_in36 : GoodIn lw_tbl wsL_law_r36 := goodIn_p wsL_law_r36 [1322, 698, 1327, 702, 706] rfl (by decide +kernel)
set_option maxRecDepth 20000 in
theorem wsL_in37 : GoodIn lw_tbl wsL_law_r37 := goodIn_p wsL_law_r37 [709, 1331, 713, 1335, 717, 721] rfl (by decide +kernel)
set_option maxRecDepth 20000 in
theorem wsL_in38 : GoodIn lw_tbl wsL_law_r38 := goodIn_p wsL_law_r38 [728, 732, 736] rfl (by decide +kernel)
set_option maxRecDepth 20000 in
theorem wsL_in39 : GoodIn lw_tbl wsL_law_r39 := goodIn_p wsL_law_r39 [740, 744, 747, 758, 762, 766] rfl (by decide +kernel)
set_option maxRecDepth 20000 in
theorem wsL_in40 : GoodIn lw_tbl wsL_law_r40 := goodIn_p wsL_law_r40 [772, 776, 779, 782, 787] rfl (by decide +kernel)
set_option maxRecDepth 20000 in
theorem wsL_in41 : GoodIn lw_tbl wsL_law_r41 := goodIn_p wsL_law_r41 [790, 793, 796, 800, 810] rfl (by decide +kernel)
set_option maxRecDepth 20000 in
theorem wsL_in42 : GoodIn lw_tbl wsL_law_r42 := goodIn_p wsL_law_r42 [817, 821, 825, 829, 836] rfl (by decide +kernel)
set_option maxRecDepth 20000 in
theorem wsL_in43 : GoodIn lw_tbl wsL_law_r43 := goodIn_p wsL_law_r43 [842, 847, 1339, 1343, 1347] rfl (by decide +kernel)
set_option maxRecDepth 20000 in
theorem wsL_in44 : GoodIn lw_tbl wsL_law_r44 := goodIn_p wsL_law_r44 [1351, 1355, 1360, 1372, 1376] rfl (by decide +kernel)
set_option maxRecDepth 20000 in
theorem wsL_in45 : GoodIn lw_tbl wsL_law_r45 := goodIn_p wsL_law_r45 [1381, 1385, 1392, 1398, 852, 855] rfl (by decide +kernel)
set_option maxRecDepth 20000 in
theorem wsL_in46 : GoodIn lw_tbl wsL_law_r46 := goodIn_p wsL_law_r46 [1404, 1407, 859, 862, 1411, 1414, 1417] rfl (by decide +kernel)
set_option maxRecDepth 20000 in
theorem wsL_in47 : GoodIn lw_tbl wsL_law_r47 := goodIn_p wsL_law_r47 [868, 872, 1421, 876, 880, 1425] rfl (by decide +kernel)
set_option maxRecDepth 20000 in
theorem wsL_in48 : GoodIn lw_tbl wsL_law_r48 := goodIn_p wsL_law_r48 [884, 888, 1429, 893, 1433] rfl (by decide +kernel)
set_option maxRecDepth 20000 in
theorem wsL_in49 : GoodIn lw_tbl wsL_law_r49 := goodIn_p wsL_law_r49 [897, 1437, 1441, 903, 1445] rfl (by decide +kernel)
set_option maxRecDepth 20000 in
theorem wsL_in50 : GoodIn lw_tbl wsL_law_r50 := goodIn_p wsL_law_r50 [907, 1449, 911, 1453, 915, 919] rfl (by decide +kernel)
set_option maxRecDepth 20000 in
theorem wsL_in51 : GoodIn lw_tbl wsL_law_r51 := goodIn_p wsL_law_r51 [923, 1457, 1461, 1465, 927, 1469] rfl (by decide +kernel)
theorem inX1 : ∀ w ∈ wsX10, w ∈ lw_tbl := by decide +kernel
theorem inX2 : ∀ w ∈ wsX20, w ∈ lw_tbl := by decide +kernel
theorem inX3 : ∀ w ∈ wsX30, w ∈ lw_tbl := by decide +kernel
theorem inX4 : ∀ w ∈ wsX40, w ∈ lw_tbl := by decide +kernel
theorem inX5 : ∀ w ∈ wsX50, w ∈ lw_tbl := by decide +kernel
theorem inX6 : ∀ w ∈ wsX60, w ∈ lw_tbl := by decide +kernel
theorem inX7 : ∀ w ∈ wsX70, w ∈ lw_tbl := by decide +kernel
theorem inX8 : ∀ w ∈ wsX80, w ∈ lw_tbl := by decide +kernel
theorem in_app {T a b : List Cond} (ha : ∀ w ∈ a, w ∈ T) (hb : ∀ w ∈ b, w ∈ T) : ∀ w ∈ a ++ b, w ∈ T := fun w h => (List.mem_append.mp h).elim (ha w) (hb w)
theorem in_good {T a : List Cond} (h : GoodIn T a) : ∀ w ∈ a, w ∈ T := fun w hw => (h w hw).1
set_option maxRecDepth 20000 in
theorem wsL_law_in : ∀ w ∈ wsL_law, w ∈ lw_tbl := in_app (in_app (in_app (in_app (in_app (in_app (in_app (in_app (in_app ((in_app (in_good wsL_in1) (in_app (in_good wsL_in2) (in_app (in_good wsL_in3) (in_app (in_good wsL_in4) (in_app (in_good wsL_in5) (in_app (in_good wsL_in6) (in_app (in_good wsL_in7) (in_app (in_good wsL_in8) (in_app (in_good wsL_in9) (in_app (in_good wsL_in10) (in_app (in_good wsL_in11) (in_app (in_good wsL_in12) (in_app (in_good wsL_in13) (in_app (in_good wsL_in14) (in_app (in_good wsL_in15) (in_app (in_good wsL_in16) (in_app (in_good wsL_in17) (in_app (in_good wsL_in18) (in_app (in_good wsL_in19) (in_app (in_good wsL_in20) (in_app (in_good wsL_in21) (in_app (in_good wsL_in22) (in_app (in_good wsL_in23) (in_app (in_good wsL_in24) (in_app (in_good wsL_in25) (in_app (in_good wsL_in26) (in_app (in_good wsL_in27) (in_app (in_good wsL_in28) (in_app (in_good wsL_in29) (in_app (in_good wsL_in30) (in_app (in_good wsL_in31) (in_app (in_good wsL_in32) (in_app (in_good wsL_in33) (in_app (in_good wsL_in34) (in_app (in_good wsL_in35) (in_app (in_good wsL_in36) (in_app (in_good wsL_in37) (in_app (in_good wsL_in38) (in_app (in_good wsL_in39) (in_app (in_good wsL_in40) (in_app (in_good wsL_in41) (in_app (in_good wsL_in42) (in_app (in_good wsL_in43) (in_app (in_good wsL_in44) (in_app (in_good wsL_in45) (in_app (in_good wsL_in46) (in_app (in_good wsL_in47) (in_app (in_good wsL_in48) (in_app (in_good wsL_in49) (in_app (in_good wsL_in50) (in_good wsL_in51)))))))))))))))))))))))))))))))))))))))))))))))))))) inX7) inX8) inX6) inX4) inX5) inX2) inX3) inX1) (fun _ h => absurd h List.not_mem_nil)
