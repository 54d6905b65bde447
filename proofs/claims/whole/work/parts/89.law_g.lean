set_option maxRecDepth 20000 in
theorem ggL_law_X7_init : GoodIn wsL_law wsX7_init := goodIn_r _ [8, 9, 10, 11, 12, 13, 14, 15, 16, 17, 18, 19, 20, 21, 22, 23, 24, 25, 26, 27, 28, 29, 30, 31, 32, 33, 34, 35, 36, 37, 38, 39, 40, 41, 42, 43, 44, 45, 46, 47, 48, 49, 50, 51, 52, 53, 54, 55, 56, 57, 58, 59, 60, 61, 62, 63, 64, 65, 66, 67, 68, 69, 70, 71, 72, 73, 74, 75, 76, 77, 78, 79, 80, 81, 82, 83, 84, 85, 86, 87, 1255, 1256, 1257, 1258, 1259, 1260, 1261, 1262, 1263, 1264, 1265, 1266, 1267, 1268, 1222, 1223, 1224, 1225, 1226, 1227, 1228, 1229, 1230, 1231, 1232, 1233, 1234, 1269, 1270, 1271, 1272, 1273, 1274, 1275, 1276, 1277, 1278, 1279, 1280, 1281, 1282, 1283, 1284, 1285, 1286, 1287] (by decide +kernel) (by decide +kernel)
set_option maxRecDepth 20000 in
theorem gL_law_X7_init : GoodIn wsL_law (wsX7_init) := ggL_law_X7_init
set_option maxRecDepth 20000 in
theorem ggL_law_X8_init : GoodIn wsL_law wsX8_init := goodIn_r _ [90, 91, 10, 11, 40, 92, 93, 94, 95, 96, 97, 98, 99, 42, 100, 101, 102, 103, 104, 105, 1235, 1236, 1237, 1238, 1239, 1240, 1241, 1242, 1243, 1244, 1245, 1246, 1247, 1248, 1249, 1250, 1251, 1252, 1253, 1254] (by decide +kernel) (by decide +kernel)
set_option maxRecDepth 20000 in
theorem gL_law_X8_init : GoodIn wsL_law (wsX8_init) := ggL_law_X8_init
set_option maxRecDepth 20000 in
theorem ggL_law_X7_fill : GoodIn wsL_law wsX7_fill := goodIn_r _ [109, 15, 110, 111, 112, 113, 114, 115, 116, 117, 2, 118, 119, 120, 121, 122, 41, 123, 124, 125, 126, 1222, 1223, 1224, 1225, 1226, 1227, 1228, 1229, 1230, 1231, 1232, 1233, 1234, 1255, 1256, 1257, 1258, 1259, 1260, 1261, 1262, 1263, 1264, 1265, 1266, 1267, 1268] (by decide +kernel) (by decide +kernel)
set_option maxRecDepth 20000 in
theorem gL_law_X7_fill : GoodIn wsL_law (wsV RL 13 RX7 yX7_fill wsX7_fill) := goodIn_app (goodIn_of _ (by decide +kernel)) ggL_law_X7_fill
set_option maxRecDepth 20000 in
theorem ggL_law_X8_fill : GoodIn wsL_law wsX8_fill := goodIn_r _ [130, 131, 132, 133, 134, 5, 135, 136, 137, 138, 139, 140, 141, 142, 143, 95, 144, 145, 146, 147, 148, 92, 1235, 1236, 1237, 1238, 1239, 1240, 1241, 1242, 1243, 1244, 1245, 1246, 1247, 1248, 1249, 1250, 1251, 1252, 1253, 1254] (by decide +kernel) (by decide +kernel)
set_option maxRecDepth 20000 in
theorem gL_law_X8_fill : GoodIn wsL_law (wsV RL 17 RX8 yX8_fill wsX8_fill) := goodIn_app (goodIn_of _ (by decide +kernel)) ggL_law_X8_fill
set_option maxRecDepth 20000 in
theorem ggL_law_X7_cell : GoodIn wsL_law wsX7_cell := goodIn_r _ [152, 15, 110, 111, 112, 113, 114, 115, 119, 120, 121, 2, 122, 41, 123, 153, 154, 155, 14, 156, 51, 58, 49, 157, 158, 159, 160, 161, 162, 163, 164, 165, 166, 167, 168, 169, 170, 171, 172, 173, 174, 175, 176, 177, 178, 53, 179, 180, 181, 182, 183, 184, 185, 1222, 1223, 1224, 1225, 1226, 1227, 1228, 1229, 1230, 1231, 1232, 1233, 1234, 1255, 1256, 1257, 1258, 1259, 1260, 1261, 1262, 1263, 1264, 1265, 1266, 1267, 1268] (by decide +kernel) (by decide +kernel)
set_option maxRecDepth 20000 in
theorem gL_law_X7_cell : GoodIn wsL_law (wsV RL 18 RX7 yX7_cell wsX7_cell) := goodIn_app (goodIn_of _ (by decide +kernel)) ggL_law_X7_cell
set_option maxRecDepth 20000 in
theorem ggL_law_X8_cell : GoodIn wsL_law wsX8_cell := goodIn_r _ [189, 190, 92, 133, 134, 5, 135, 136, 137, 138, 139, 140, 141, 142, 143, 95, 144, 191, 192, 193, 194, 195, 196, 197, 198, 199, 200, 201, 202, 161, 162, 163, 203, 204, 205, 206, 207, 208, 209, 210, 1235, 1236, 1237, 1238, 1239, 1240, 1241, 1242, 1243, 1244, 1245, 1246, 1247, 1248, 1249, 1250, 1251, 1252, 1253, 1254] (by decide +kernel) (by decide +kernel)
set_option maxRecDepth 20000 in
theorem gL_law_X8_cell : GoodIn wsL_law (wsV RL 22 RX8 yX8_cell wsX8_cell) := goodIn_app (goodIn_of _ (by decide +kernel)) ggL_law_X8_cell
set_option maxRecDepth 20000 in
theorem ggL_law_X7_guard : GoodIn wsL_law wsX7_guard := goodIn_r _ [214, 15, 215, 216, 217, 2, 218, 116, 117, 118, 119, 120, 121, 122, 41, 123, 124, 125, 126, 1222, 1223, 1224, 1225, 1226, 1227, 1228, 1229, 1230, 1231, 1232, 1233, 1234, 1255, 1256, 1257, 1258, 1259, 1260, 1261, 1262, 1263, 1264, 1265, 1266, 1267, 1268] (by decide +kernel) (by decide +kernel)
set_option maxRecDepth 20000 in
theorem gL_law_X7_guard : GoodIn wsL_law (wsV RL 23 RX7 yX7_guard wsX7_guard) := goodIn_app (goodIn_of _ (by decide +kernel)) ggL_law_X7_guard
set_option maxRecDepth 20000 in
theorem ggL_law_X8_guard : GoodIn wsL_law wsX8_guard := goodIn_r _ [222, 223, 136, 224, 225, 5, 226, 190, 137, 138, 139, 145, 146, 147, 148, 92, 140, 141, 142, 143, 95, 144, 1235, 1236, 1237, 1238, 1239, 1240, 1241, 1242, 1243, 1244, 1245, 1246, 1247, 1248, 1249, 1250, 1251, 1252, 1253, 1254] (by decide +kernel) (by decide +kernel)
set_option maxRecDepth 20000 in
theorem gL_law_X8_guard : GoodIn wsL_law (wsV RL 26 RX8 yX8_guard wsX8_guard) := goodIn_app (goodIn_of _ (by decide +kernel)) ggL_law_X8_guard
set_option maxRecDepth 20000 in
theorem ggL_law_X7_sight : GoodIn wsL_law wsX7_sight := goodIn_r _ [230, 15, 231, 116, 117, 2, 118, 119, 120, 121, 122, 41, 123, 1222, 1223, 1224, 1225, 1226, 1227, 1228, 1229, 1230, 1231, 1232, 1233, 1234, 1255, 1256, 1257, 1258, 1259, 1260, 1261, 1262, 1263, 1264, 1265, 1266, 1267, 1268] (by decide +kernel) (by decide +kernel)
set_option maxRecDepth 20000 in
theorem gL_law_X7_sight : GoodIn wsL_law (wsV RL 27 RX7 yX7_sight wsX7_sight) := goodIn_app (goodIn_of _ (by decide +kernel)) ggL_law_X7_sight
set_option maxRecDepth 20000 in
theorem ggL_law_X8_sight : GoodIn wsL_law wsX8_sight := goodIn_r _ [235, 236, 137, 138, 5, 139, 145, 146, 147, 148, 92, 140, 141, 142, 143, 95, 144, 1235, 1236, 1237, 1238, 1239, 1240, 1241, 1242, 1243, 1244, 1245, 1246, 1247, 1248, 1249, 1250, 1251, 1252, 1253, 1254] (by decide +kernel) (by decide +kernel)
set_option maxRecDepth 20000 in
theorem gL_law_X8_sight : GoodIn wsL_law (wsV RL 31 RX8 yX8_sight wsX8_sight) := goodIn_app (goodIn_of _ (by decide +kernel)) ggL_law_X8_sight
set_option maxRecDepth 20000 in
theorem ggL_law_X7_bather : GoodIn wsL_law wsX7_bather := goodIn_r _ [240, 15, 241, 242, 243, 2, 244, 116, 117, 118, 112, 113, 114, 115, 119, 120, 121, 122, 41, 123, 245, 246, 247, 14, 248, 178, 52, 53, 54, 55, 56, 1222, 1223, 1224, 1225, 1226, 1227, 1228, 1229, 1230, 1231, 1232, 1233, 1234, 1255, 1256, 1257, 1258, 1259, 1260, 1261, 1262, 1263, 1264, 1265, 1266, 1267, 1268] (by decide +kernel) (by decide +kernel)
set_option maxRecDepth 20000 in
theorem gL_law_X7_bather : GoodIn wsL_law (wsV RL 32 RX7 yX7_bather wsX7_bather) := goodIn_app (goodIn_of _ (by decide +kernel)) ggL_law_X7_bather
set_option maxRecDepth 20000 in
theorem ggL_law_X8_bather : GoodIn wsL_law wsX8_bather := goodIn_r _ [252, 92, 253, 254, 5, 255, 256, 137, 138, 139, 133, 134, 135, 136, 140, 141, 142, 143, 95, 144, 257, 258, 259, 260, 261, 262, 263, 264, 1235, 1236, 1237, 1238, 1239, 1240, 1241, 1242, 1243, 1244, 1245, 1246, 1247, 1248, 1249, 1250, 1251, 1252, 1253, 1254] (by decide +kernel) (by decide +kernel)
set_option maxRecDepth 20000 in
theorem gL_law_X8_bather : GoodIn wsL_law (wsV RL 35 RX8 yX8_bather wsX8_bather) := goodIn_app (goodIn_of _ (by decide +kernel)) ggL_law_X8_bather
set_option maxRecDepth 20000 in
theorem ggL_law_X7_of : GoodIn wsL_law wsX7_of := goodIn_r _ [268, 15, 269, 270, 271, 272, 273, 22, 231, 274, 275, 276, 2, 277, 241, 116, 117, 118, 119, 120, 121, 122, 41, 123, 278, 279, 280, 21, 281, 64, 282, 283, 284, 285, 286, 287, 288, 289, 290, 291, 292, 14, 293, 51, 294, 295, 296, 297, 49, 157, 158, 114, 159, 160, 161, 162, 163, 164, 165, 166, 167, 168, 169, 298, 299, 300, 301, 302, 303, 304, 305, 306, 113, 115, 307, 308, 309, 310, 311, 312, 313, 314, 315, 316, 317, 318, 319, 320, 321, 322, 323, 324, 325, 326, 327, 328, 329, 330, 331, 332, 333, 334, 335, 336, 337, 338, 339, 340, 1222, 1223, 1224, 1225, 1226, 1227, 1228, 1229, 1230, 1231, 1232, 1233, 1234, 1255, 1256, 1257, 1258, 1259, 1260, 1261, 1262, 1263, 1264, 1265, 1266, 1267, 1268, 1269, 1270, 1271, 1272, 1273] (by decide +kernel) (by decide +kernel)
set_option maxRecDepth 20000 in
theorem gL_law_X7_of : GoodIn wsL_law (wsV RL 36 RX7 yX7_of wsX7_of) := goodIn_app (goodIn_of _ (by decide +kernel)) ggL_law_X7_of
set_option maxRecDepth 20000 in
theorem ggL_law_X8_of : GoodIn wsL_law wsX8_of := goodIn_r _ [344, 256, 345, 346, 347, 5, 348, 92, 137, 138, 139, 140, 141, 142, 143, 95, 144, 207, 208, 209, 210, 349, 350, 351, 352, 353, 354, 355, 356, 357, 358, 359, 360, 191, 192, 193, 194, 195, 196, 197, 198, 199, 200, 201, 202, 161, 162, 163, 361, 362, 363, 364, 365, 366, 367, 368, 369, 370, 371, 372, 373, 374, 375, 376, 377, 378, 379, 380, 381, 382, 383, 384, 385, 386, 387, 388, 389, 390, 391, 1235, 1236, 1237, 1238, 1239, 1240, 1241, 1242, 1243, 1244, 1245, 1246, 1247, 1248, 1249, 1250, 1251, 1252, 1253, 1254] (by decide +kernel) (by decide +kernel)
set_option maxRecDepth 20000 in
theorem gL_law_X8_of : GoodIn wsL_law (wsV RL 39 RX8 yX8_of wsX8_of) := goodIn_app (goodIn_of _ (by decide +kernel)) ggL_law_X8_of
set_option maxRecDepth 20000 in
theorem ggL_law_X7_change : GoodIn wsL_law wsX7_change := goodIn_r _ [395, 15, 269, 270, 271, 272, 273, 274, 275, 276, 2, 277, 241, 116, 117, 118, 119, 120, 121, 122, 41, 123, 396, 397, 398, 399, 124, 125, 126, 1222, 1223, 1224, 1225, 1226, 1227, 1228, 1229, 1230, 1231, 1232, 1233, 1234, 1255, 1256, 1257, 1258, 1259, 1260, 1261, 1262, 1263, 1264, 1265, 1266, 1267, 1268] (by decide +kernel) (by decide +kernel)
set_option maxRecDepth 20000 in
theorem gL_law_X7_change : GoodIn wsL_law (wsV RL 40 RX7 yX7_change wsX7_change) := goodIn_app (goodIn_of _ (by decide +kernel)) ggL_law_X7_change
set_option maxRecDepth 20000 in
theorem ggL_law_X8_change : GoodIn wsL_law wsX8_change := goodIn_r _ [403, 345, 346, 347, 5, 348, 92, 137, 138, 139, 404, 405, 406, 407, 376, 253, 254, 255, 256, 133, 134, 135, 136, 408, 409, 410, 145, 146, 147, 148, 140, 141, 142, 143, 95, 144, 1235, 1236, 1237, 1238, 1239, 1240, 1241, 1242, 1243, 1244, 1245, 1246, 1247, 1248, 1249, 1250, 1251, 1252, 1253, 1254] (by decide +kernel) (by decide +kernel)
set_option maxRecDepth 20000 in
theorem gL_law_X8_change : GoodIn wsL_law (wsV RL 43 RX8 yX8_change wsX8_change) := goodIn_app (goodIn_of _ (by decide +kernel)) ggL_law_X8_change
set_option maxRecDepth 20000 in
theorem ggL_law_X7_go : GoodIn wsL_law wsX7_go := goodIn_r _ [414, 15, 415, 416, 231, 116, 117, 2, 118, 119, 120, 121, 122, 41, 123, 290, 291, 292, 14, 293, 51, 294, 295, 296, 297, 49, 157, 158, 114, 159, 160, 161, 162, 163, 164, 165, 166, 167, 168, 169, 417, 418, 419, 420, 241, 22, 421, 422, 423, 424, 278, 279, 280, 21, 281, 64, 282, 283, 284, 285, 286, 287, 288, 289, 425, 426, 427, 428, 429, 302, 303, 304, 305, 306, 113, 115, 336, 311, 312, 313, 430, 299, 300, 301, 307, 308, 309, 310, 314, 315, 316, 317, 318, 319, 320, 321, 322, 323, 324, 325, 326, 327, 328, 329, 330, 331, 332, 333, 334, 335, 431, 432, 433, 434, 337, 338, 339, 340, 435, 436, 437, 438, 439, 171, 172, 173, 174, 175, 176, 177, 178, 53, 179, 180, 181, 182, 183, 184, 185, 1222, 1223, 1224, 1225, 1226, 1227, 1228, 1229, 1230, 1231, 1232, 1233, 1234, 1255, 1256, 1257, 1258, 1259, 1260, 1261, 1262, 1263, 1264, 1265, 1266, 1267, 1268, 1269, 1270, 1271, 1272, 1273] (by decide +kernel) (by decide +kernel)
set_option maxRecDepth 20000 in
theorem gL_law_X7_go : GoodIn wsL_law (wsV RL 44 RX7 yX7_go wsX7_go) := goodIn_app (goodIn_of _ (by decide +kernel)) ggL_law_X7_go
set_option maxRecDepth 20000 in
theorem ggL_law_X8_go : GoodIn wsL_law wsX8_go := goodIn_r _ [443, 444, 92, 445, 137, 138, 5, 139, 140, 141, 142, 143, 95, 144, 446, 447, 448, 449, 353, 354, 355, 356, 207, 208, 209, 210, 450, 451, 452, 453, 454, 423, 162, 424, 261, 262, 263, 264, 361, 362, 363, 364, 365, 366, 367, 368, 369, 370, 371, 372, 373, 374, 375, 376, 377, 378, 379, 357, 358, 359, 360, 191, 192, 193, 194, 195, 196, 197, 198, 199, 200, 201, 202, 161, 163, 380, 381, 382, 383, 384, 385, 386, 387, 388, 389, 390, 391, 455, 456, 457, 458, 1235, 1236, 1237, 1238, 1239, 1240, 1241, 1242, 1243, 1244, 1245, 1246, 1247, 1248, 1249, 1250, 1251, 1252, 1253, 1254] (by decide +kernel) (by decide +kernel)
set_option maxRecDepth 20000 in
theorem gL_law_X8_go : GoodIn wsL_law (wsV RL 47 RX8 yX8_go wsX8_go) := goodIn_app (goodIn_of _ (by decide +kernel)) ggL_law_X8_go
set_option maxRecDepth 20000 in
theorem ggL_law_X7_now : GoodIn wsL_law wsX7_now := goodIn_r _ [462, 15, 415, 421, 231, 463, 175, 176, 14, 177, 178, 53, 290, 291, 292, 293, 51, 294, 295, 296, 297, 49, 157, 158, 114, 159, 160, 161, 162, 163, 164, 165, 166, 167, 168, 169, 464, 465, 466, 467, 468, 469, 470, 119, 120, 121, 2, 122, 41, 123, 1222, 1223, 1224, 1225, 1226, 1227, 1228, 1229, 1230, 1231, 1232, 1233, 1234, 1255, 1256, 1257, 1258, 1259, 1260, 1261, 1262, 1263, 1264, 1265, 1266, 1267, 1268] (by decide +kernel) (by decide +kernel)
set_option maxRecDepth 20000 in
theorem gL_law_X7_now : GoodIn wsL_law (wsV RL 48 RX7 yX7_now wsX7_now) := goodIn_app (goodIn_of _ (by decide +kernel)) ggL_law_X7_now
set_option maxRecDepth 20000 in
theorem ggL_law_X8_now : GoodIn wsL_law wsX8_now := goodIn_r _ [474, 92, 475, 476, 477, 5, 478, 207, 208, 209, 210, 479, 480, 481, 482, 357, 358, 359, 360, 191, 192, 193, 194, 195, 196, 197, 198, 199, 200, 201, 202, 161, 162, 163, 140, 141, 142, 143, 95, 144, 1235, 1236, 1237, 1238, 1239, 1240, 1241, 1242, 1243, 1244, 1245, 1246, 1247, 1248, 1249, 1250, 1251, 1252, 1253, 1254] (by decide +kernel) (by decide +kernel)
set_option maxRecDepth 20000 in
theorem gL_law_X8_now : GoodIn wsL_law (wsV RL 51 RX8 yX8_now wsX8_now) := goodIn_app (goodIn_of _ (by decide +kernel)) ggL_law_X8_now
set_option maxRecDepth 20000 in
theorem ggL_law_X7_seen : GoodIn wsL_law wsX7_seen := goodIn_r _ [486, 15, 231, 290, 291, 292, 14, 293, 51, 294, 295, 296, 297, 49, 157, 158, 114, 159, 160, 161, 162, 163, 164, 165, 166, 167, 168, 169, 1222, 1223, 1224, 1225, 1226, 1227, 1228, 1229, 1230, 1231, 1232, 1233, 1234, 1255, 1256, 1257, 1258, 1259, 1260, 1261, 1262, 1263, 1264, 1265, 1266, 1267, 1268] (by decide +kernel) (by decide +kernel)
set_option maxRecDepth 20000 in
theorem gL_law_X7_seen : GoodIn wsL_law (wsV RL 52 RX7 yX7_seen wsX7_seen) := goodIn_app (goodIn_of _ (by decide +kernel)) ggL_law_X7_seen
set_option maxRecDepth 20000 in
theorem ggL_law_X8_seen : GoodIn wsL_law wsX8_seen := goodIn_r _ [490, 357, 358, 359, 5, 360, 191, 192, 193, 194, 92, 195, 196, 197, 198, 199, 200, 201, 202, 161, 162, 163, 1235, 1236, 1237, 1238, 1239, 1240, 1241, 1242, 1243, 1244, 1245, 1246, 1247, 1248, 1249, 1250, 1251, 1252, 1253, 1254] (by decide +kernel) (by decide +kernel)
set_option maxRecDepth 20000 in
theorem gL_law_X8_seen : GoodIn wsL_law (wsV RL 56 RX8 yX8_seen wsX8_seen) := goodIn_app (goodIn_of _ (by decide +kernel)) ggL_law_X8_seen
set_option maxRecDepth 20000 in
theorem ggL_law_X7_ahead : GoodIn wsL_law wsX7_ahead := goodIn_r _ [494, 15, 231, 22, 495, 274, 275, 276, 2, 277, 241, 116, 117, 118, 119, 120, 121, 122, 41, 123, 290, 291, 292, 14, 293, 51, 294, 295, 296, 297, 49, 157, 158, 114, 159, 160, 161, 162, 163, 164, 165, 166, 167, 168, 169, 278, 279, 280, 21, 281, 64, 282, 283, 284, 285, 286, 287, 288, 289, 425, 426, 427, 428, 429, 423, 424, 302, 303, 304, 305, 306, 113, 115, 336, 311, 312, 313, 430, 299, 300, 301, 307, 308, 309, 310, 314, 315, 316, 317, 318, 319, 320, 321, 322, 323, 324, 325, 326, 327, 328, 329, 330, 331, 332, 333, 334, 335, 1222, 1223, 1224, 1225, 1226, 1227, 1228, 1229, 1230, 1231, 1232, 1233, 1234, 1255, 1256, 1257, 1258, 1259, 1260, 1261, 1262, 1263, 1264, 1265, 1266, 1267, 1268, 1269, 1270, 1271, 1272, 1273] (by decide +kernel) (by decide +kernel)
set_option maxRecDepth 20000 in
theorem gL_law_X7_ahead : GoodIn wsL_law (wsV RL 57 RX7 yX7_ahead wsX7_ahead) := goodIn_app (goodIn_of _ (by decide +kernel)) ggL_law_X7_ahead
set_option maxRecDepth 20000 in
theorem ggL_law_X8_ahead : GoodIn wsL_law wsX8_ahead := goodIn_r _ [499, 345, 346, 347, 5, 348, 92, 137, 138, 139, 500, 501, 502, 503, 140, 141, 142, 143, 95, 144, 504, 505, 506, 507, 94, 508, 509, 510, 446, 447, 448, 449, 353, 354, 355, 356, 207, 208, 209, 210, 450, 451, 452, 453, 454, 423, 162, 424, 445, 261, 262, 263, 264, 361, 362, 363, 364, 365, 366, 367, 368, 369, 370, 371, 372, 373, 374, 375, 376, 377, 378, 379, 357, 358, 359, 360, 191, 192, 193, 194, 195, 196, 197, 198, 199, 200, 201, 202, 161, 163, 380, 381, 382, 383, 384, 385, 386, 387, 388, 389, 390, 391, 511, 512, 513, 514, 1235, 1236, 1237, 1238, 1239, 1240, 1241, 1242, 1243, 1244, 1245, 1246, 1247, 1248, 1249, 1250, 1251, 1252, 1253, 1254] (by decide +kernel) (by decide +kernel)
set_option maxRecDepth 20000 in
theorem gL_law_X8_ahead : GoodIn wsL_law (wsV RL 60 RX8 yX8_ahead wsX8_ahead) := goodIn_app (goodIn_of _ (by decide +kernel)) ggL_law_X8_ahead
set_option maxRecDepth 20000 in
theorem ggL_law_X7_out : GoodIn wsL_law wsX7_out := goodIn_r _ [518, 22, 15, 231, 274, 275, 276, 2, 277, 241, 116, 117, 118, 119, 120, 121, 122, 41, 123, 278, 279, 280, 21, 281, 64, 282, 283, 284, 285, 286, 287, 288, 289, 290, 291, 292, 14, 293, 51, 294, 295, 296, 297, 49, 157, 158, 114, 159, 160, 161, 162, 163, 164, 165, 166, 167, 168, 169, 519, 520, 521, 522, 302, 303, 304, 305, 306, 113, 115, 523, 426, 427, 428, 429, 423, 424, 336, 311, 312, 313, 430, 299, 300, 301, 307, 308, 309, 310, 314, 315, 316, 317, 318, 319, 320, 321, 322, 323, 324, 325, 326, 327, 328, 329, 330, 331, 332, 333, 334, 335, 1222, 1223, 1224, 1225, 1226, 1227, 1228, 1229, 1230, 1231, 1232, 1233, 1234, 1255, 1256, 1257, 1258, 1259, 1260, 1261, 1262, 1263, 1264, 1265, 1266, 1267, 1268, 1269, 1270, 1271, 1272, 1273] (by decide +kernel) (by decide +kernel)
set_option maxRecDepth 20000 in
theorem gL_law_X7_out : GoodIn wsL_law (wsV RL 61 RX7 yX7_out wsX7_out) := goodIn_app (goodIn_of _ (by decide +kernel)) ggL_law_X7_out
set_option maxRecDepth 20000 in
theorem ggL_law_X8_out : GoodIn wsL_law wsX8_out := goodIn_r _ [527, 345, 346, 347, 5, 348, 92, 137, 138, 139, 528, 529, 530, 531, 504, 505, 506, 507, 94, 508, 509, 510, 532, 533, 534, 535, 353, 354, 355, 356, 207, 208, 209, 210, 349, 350, 351, 352, 357, 358, 359, 360, 191, 192, 193, 194, 195, 196, 197, 198, 199, 200, 201, 202, 161, 162, 163, 446, 447, 448, 449, 450, 451, 452, 453, 454, 423, 424, 445, 261, 262, 263, 264, 361, 362, 363, 364, 365, 366, 367, 368, 369, 370, 371, 372, 373, 374, 375, 376, 377, 378, 379, 380, 381, 382, 383, 384, 385, 386, 387, 388, 389, 390, 391, 511, 512, 513, 514, 536, 537, 538, 539, 140, 141, 142, 143, 95, 144, 1235, 1236, 1237, 1238, 1239, 1240, 1241, 1242, 1243, 1244, 1245, 1246, 1247, 1248, 1249, 1250, 1251, 1252, 1253, 1254] (by decide +kernel) (by decide +kernel)
set_option maxRecDepth 20000 in
theorem gL_law_X8_out : GoodIn wsL_law (wsV RL 64 RX8 yX8_out wsX8_out) := goodIn_app (goodIn_of _ (by decide +kernel)) ggL_law_X8_out
set_option maxRecDepth 20000 in
theorem ggL_law_X7_caught : GoodIn wsL_law wsX7_caught := goodIn_r _ [543, 22, 15, 231, 274, 275, 276, 2, 277, 241, 116, 117, 118, 119, 120, 121, 122, 41, 123, 278, 279, 280, 21, 281, 64, 282, 283, 284, 285, 286, 287, 288, 289, 290, 291, 292, 14, 293, 51, 294, 295, 296, 297, 49, 157, 158, 114, 159, 160, 161, 162, 163, 164, 165, 166, 167, 168, 169, 544, 545, 546, 547, 302, 303, 304, 305, 306, 113, 115, 548, 338, 339, 340, 317, 318, 319, 523, 426, 427, 428, 429, 423, 424, 336, 311, 312, 313, 430, 299, 300, 301, 307, 308, 309, 310, 314, 315, 316, 320, 321, 322, 323, 324, 325, 326, 327, 328, 329, 330, 331, 332, 333, 334, 335, 1222, 1223, 1224, 1225, 1226, 1227, 1228, 1229, 1230, 1231, 1232, 1233, 1234, 1255, 1256, 1257, 1258, 1259, 1260, 1261, 1262, 1263, 1264, 1265, 1266, 1267, 1268, 1269, 1270, 1271, 1272, 1273] (by decide +kernel) (by decide +kernel)
set_option maxRecDepth 20000 in
theorem gL_law_X7_caught : GoodIn wsL_law (wsV RL 65 RX7 yX7_caught wsX7_caught) := goodIn_app (goodIn_of _ (by decide +kernel)) ggL_law_X7_caught
set_option maxRecDepth 20000 in
theorem ggL_law_X8_caught : GoodIn wsL_law wsX8_caught := goodIn_r _ [552, 345, 346, 347, 5, 348, 92, 137, 138, 139, 528, 529, 530, 531, 504, 505, 506, 507, 94, 508, 509, 510, 532, 533, 534, 535, 353, 354, 355, 356, 207, 208, 209, 210, 349, 350, 351, 352, 357, 358, 359, 360, 191, 192, 193, 194, 195, 196, 197, 198, 199, 200, 201, 202, 161, 162, 163, 446, 447, 448, 449, 450, 451, 452, 453, 454, 423, 424, 445, 261, 262, 263, 264, 361, 362, 363, 364, 365, 366, 367, 368, 369, 370, 371, 372, 373, 374, 375, 376, 377, 378, 379, 380, 381, 382, 383, 384, 385, 386, 387, 388, 389, 390, 391, 511, 512, 513, 514, 536, 537, 538, 539, 140, 141, 142, 143, 95, 144, 1235, 1236, 1237, 1238, 1239, 1240, 1241, 1242, 1243, 1244, 1245, 1246, 1247, 1248, 1249, 1250, 1251, 1252, 1253, 1254] (by decide +kernel) (by decide +kernel)
set_option maxRecDepth 20000 in
theorem gL_law_X8_caught : GoodIn wsL_law (wsV RL 68 RX8 yX8_caught wsX8_caught) := goodIn_app (goodIn_of _ (by decide +kernel)) ggL_law_X8_caught
set_option maxRecDepth 20000 in
theorem ggL_law_X7_meet : GoodIn wsL_law wsX7_meet := goodIn_r _ [556, 15, 231, 22, 23, 495, 274, 275, 276, 2, 277, 241, 116, 117, 118, 119, 120, 121, 122, 41, 123, 290, 291, 292, 14, 293, 51, 294, 295, 296, 297, 49, 157, 158, 114, 159, 160, 161, 162, 163, 164, 165, 166, 167, 168, 169, 278, 279, 280, 21, 281, 64, 282, 283, 284, 285, 286, 287, 288, 289, 557, 303, 304, 305, 306, 113, 115, 425, 426, 427, 428, 429, 423, 424, 302, 336, 311, 312, 313, 430, 299, 300, 301, 307, 308, 309, 310, 314, 315, 316, 317, 318, 319, 320, 321, 322, 323, 324, 325, 326, 327, 328, 329, 330, 331, 332, 333, 334, 335, 1222, 1223, 1224, 1225, 1226, 1227, 1228, 1229, 1230, 1231, 1232, 1233, 1234, 1255, 1256, 1257, 1258, 1259, 1260, 1261, 1262, 1263, 1264, 1265, 1266, 1267, 1268, 1269, 1270, 1271, 1272, 1273] (by decide +kernel) (by decide +kernel)
set_option maxRecDepth 20000 in
theorem gL_law_X7_meet : GoodIn wsL_law (wsV RL 69 RX7 yX7_meet wsX7_meet) := goodIn_app (goodIn_of _ (by decide +kernel)) ggL_law_X7_meet
set_option maxRecDepth 20000 in
theorem ggL_law_X8_meet : GoodIn wsL_law wsX8_meet := goodIn_r _ [561, 345, 346, 347, 5, 348, 92, 137, 138, 139, 528, 529, 530, 531, 504, 505, 506, 507, 94, 508, 509, 510, 532, 533, 534, 535, 353, 354, 355, 356, 207, 208, 209, 210, 349, 350, 351, 352, 357, 358, 359, 360, 191, 192, 193, 194, 195, 196, 197, 198, 199, 200, 201, 202, 161, 162, 163, 446, 447, 448, 449, 450, 451, 452, 453, 454, 423, 424, 445, 261, 262, 263, 264, 361, 362, 363, 364, 365, 366, 367, 368, 369, 370, 371, 372, 373, 374, 375, 376, 377, 378, 379, 380, 381, 382, 383, 384, 385, 386, 387, 388, 389, 390, 391, 511, 512, 513, 514, 536, 537, 538, 539, 140, 141, 142, 143, 95, 144, 1235, 1236, 1237, 1238, 1239, 1240, 1241, 1242, 1243, 1244, 1245, 1246, 1247, 1248, 1249, 1250, 1251, 1252, 1253, 1254] (by decide +kernel) (by decide +kernel)
set_option maxRecDepth 20000 in
theorem gL_law_X8_meet : GoodIn wsL_law (wsV RL 72 RX8 yX8_meet wsX8_meet) := goodIn_app (goodIn_of _ (by decide +kernel)) ggL_law_X8_meet
set_option maxRecDepth 20000 in
theorem ggL_law_X7_kindFor : GoodIn wsL_law wsX7_kindFor := goodIn_r _ [565, 15, 231, 22, 566, 274, 275, 276, 2, 277, 241, 116, 117, 118, 119, 120, 121, 122, 41, 123, 290, 291, 292, 14, 293, 51, 294, 295, 296, 297, 49, 157, 158, 114, 159, 160, 161, 162, 163, 164, 165, 166, 167, 168, 169, 278, 279, 280, 21, 281, 64, 282, 283, 284, 285, 286, 287, 288, 289, 519, 520, 521, 522, 302, 303, 304, 305, 306, 113, 115, 523, 426, 427, 428, 429, 423, 424, 336, 311, 312, 313, 430, 299, 300, 301, 307, 308, 309, 310, 314, 315, 316, 317, 318, 319, 320, 321, 322, 323, 324, 325, 326, 327, 328, 329, 330, 331, 332, 333, 334, 335, 1222, 1223, 1224, 1225, 1226, 1227, 1228, 1229, 1230, 1231, 1232, 1233, 1234, 1255, 1256, 1257, 1258, 1259, 1260, 1261, 1262, 1263, 1264, 1265, 1266, 1267, 1268, 1269, 1270, 1271, 1272, 1273] (by decide +kernel) (by decide +kernel)
set_option maxRecDepth 20000 in
theorem gL_law_X7_kindFor : GoodIn wsL_law (wsV RL 73 RX7 yX7_kindFor wsX7_kindFor) := goodIn_app (goodIn_of _ (by decide +kernel)) ggL_law_X7_kindFor
set_option maxRecDepth 20000 in
theorem ggL_law_X8_kindFor : GoodIn wsL_law wsX8_kindFor := goodIn_r _ [570, 454, 423, 162, 424, 345, 346, 347, 5, 348, 92, 137, 138, 139, 140, 141, 142, 143, 95, 144, 207, 208, 209, 210, 261, 262, 263, 264, 528, 529, 530, 531, 504, 505, 506, 507, 94, 508, 509, 510, 532, 533, 534, 535, 353, 354, 355, 356, 349, 350, 351, 352, 357, 358, 359, 360, 191, 192, 193, 194, 195, 196, 197, 198, 199, 200, 201, 202, 161, 163, 446, 447, 448, 449, 450, 451, 452, 453, 445, 361, 362, 363, 364, 365, 366, 367, 368, 369, 370, 371, 372, 373, 374, 375, 376, 377, 378, 379, 380, 381, 382, 383, 384, 385, 386, 387, 388, 389, 390, 391, 511, 512, 513, 514, 1235, 1236, 1237, 1238, 1239, 1240, 1241, 1242, 1243, 1244, 1245, 1246, 1247, 1248, 1249, 1250, 1251, 1252, 1253, 1254] (by decide +kernel) (by decide +kernel)
set_option maxRecDepth 20000 in
theorem gL_law_X8_kindFor : GoodIn wsL_law (wsV RL 76 RX8 yX8_kindFor wsX8_kindFor) := goodIn_app (goodIn_of _ (by decide +kernel)) ggL_law_X8_kindFor
set_option maxRecDepth 20000 in
theorem ggL_law_X7_sightFor : GoodIn wsL_law wsX7_sightFor := goodIn_r _ [574, 22, 15, 274, 275, 276, 2, 277, 241, 116, 117, 118, 119, 120, 121, 122, 41, 123, 278, 279, 280, 21, 281, 64, 282, 283, 284, 285, 286, 287, 288, 289, 290, 291, 292, 14, 293, 51, 294, 295, 296, 297, 49, 157, 158, 114, 159, 160, 161, 162, 163, 164, 165, 166, 167, 168, 169, 544, 545, 546, 547, 302, 303, 304, 305, 306, 113, 115, 548, 338, 339, 340, 317, 318, 319, 523, 426, 427, 428, 429, 423, 424, 336, 311, 312, 313, 430, 299, 300, 301, 307, 308, 309, 310, 314, 315, 316, 320, 321, 322, 323, 324, 325, 326, 327, 328, 329, 330, 331, 332, 333, 334, 335, 1222, 1223, 1224, 1225, 1226, 1227, 1228, 1229, 1230, 1231, 1232, 1233, 1234, 1255, 1256, 1257, 1258, 1259, 1260, 1261, 1262, 1263, 1264, 1265, 1266, 1267, 1268, 1269, 1270, 1271, 1272, 1273] (by decide +kernel) (by decide +kernel)
set_option maxRecDepth 20000 in
theorem gL_law_X7_sightFor : GoodIn wsL_law (wsV RL 77 RX7 yX7_sightFor wsX7_sightFor) := goodIn_app (goodIn_of _ (by decide +kernel)) ggL_law_X7_sightFor
set_option maxRecDepth 20000 in
theorem ggL_law_X8_sightFor : GoodIn wsL_law wsX8_sightFor := goodIn_r _ [578, 92, 345, 346, 347, 5, 348, 137, 138, 139, 140, 141, 142, 143, 95, 144, 528, 529, 530, 531, 504, 505, 506, 507, 94, 508, 509, 510, 532, 533, 534, 535, 353, 354, 355, 356, 207, 208, 209, 210, 349, 350, 351, 352, 357, 358, 359, 360, 191, 192, 193, 194, 195, 196, 197, 198, 199, 200, 201, 202, 161, 162, 163, 446, 447, 448, 449, 450, 451, 452, 453, 454, 423, 424, 445, 261, 262, 263, 264, 361, 362, 363, 364, 365, 366, 367, 368, 369, 370, 371, 372, 373, 374, 375, 376, 377, 378, 379, 380, 381, 382, 383, 384, 385, 386, 387, 388, 389, 390, 391, 511, 512, 513, 514, 1235, 1236, 1237, 1238, 1239, 1240, 1241, 1242, 1243, 1244, 1245, 1246, 1247, 1248, 1249, 1250, 1251, 1252, 1253, 1254] (by decide +kernel) (by decide +kernel)
set_option maxRecDepth 20000 in
theorem gL_law_X8_sightFor : GoodIn wsL_law (wsV RL 80 RX8 yX8_sightFor wsX8_sightFor) := goodIn_app (goodIn_of _ (by decide +kernel)) ggL_law_X8_sightFor
set_option maxRecDepth 20000 in
theorem ggL_law_X7_way : GoodIn wsL_law wsX7_way := goodIn_r _ [582, 15, 231, 583, 112, 113, 114, 115, 584, 585, 2, 586, 116, 117, 118, 119, 120, 121, 122, 41, 123, 290, 291, 292, 14, 293, 51, 294, 295, 296, 297, 49, 157, 158, 159, 160, 161, 162, 163, 164, 165, 166, 167, 168, 169, 587, 588, 26, 589, 590, 591, 592, 593, 594, 595, 596, 318, 319, 597, 598, 599, 600, 601, 602, 1222, 1223, 1224, 1225, 1226, 1227, 1228, 1229, 1230, 1231, 1232, 1233, 1234, 1255, 1256, 1257, 1258, 1259, 1260, 1261, 1262, 1263, 1264, 1265, 1266, 1267, 1268] (by decide +kernel) (by decide +kernel)
set_option maxRecDepth 20000 in
theorem gL_law_X7_way : GoodIn wsL_law (wsV RL 81 RX7 yX7_way wsX7_way) := goodIn_app (goodIn_of _ (by decide +kernel)) ggL_law_X7_way
set_option maxRecDepth 20000 in
theorem ggL_law_X8_way : GoodIn wsL_law wsX8_way := goodIn_r _ [606, 96, 607, 133, 134, 5, 135, 136, 137, 138, 139, 408, 409, 410, 140, 141, 142, 143, 95, 144, 608, 609, 610, 611, 97, 612, 613, 614, 615, 92, 616, 617, 162, 618, 199, 200, 201, 202, 161, 163, 357, 358, 359, 360, 191, 192, 193, 194, 195, 196, 197, 198, 619, 620, 621, 622, 99, 454, 423, 424, 623, 624, 625, 626, 372, 373, 374, 375, 376, 1235, 1236, 1237, 1238, 1239, 1240, 1241, 1242, 1243, 1244, 1245, 1246, 1247, 1248, 1249, 1250, 1251, 1252, 1253, 1254] (by decide +kernel) (by decide +kernel)
set_option maxRecDepth 20000 in
theorem gL_law_X8_way : GoodIn wsL_law (wsV RL 84 RX8 yX8_way wsX8_way) := goodIn_app (goodIn_of _ (by decide +kernel)) ggL_law_X8_way
set_option maxRecDepth 20000 in
theorem ggL_law_X7_next : GoodIn wsL_law wsX7_next := goodIn_r _ [630, 15, 231, 583, 112, 113, 114, 115, 584, 585, 2, 586, 116, 117, 118, 119, 120, 121, 122, 41, 123, 290, 291, 292, 14, 293, 51, 294, 295, 296, 297, 49, 157, 158, 159, 160, 161, 162, 163, 164, 165, 166, 167, 168, 169, 631, 632, 26, 633, 634, 588, 589, 590, 591, 592, 593, 594, 595, 596, 318, 319, 597, 598, 599, 600, 601, 602, 635, 1222, 1223, 1224, 1225, 1226, 1227, 1228, 1229, 1230, 1231, 1232, 1233, 1234, 1255, 1256, 1257, 1258, 1259, 1260, 1261, 1262, 1263, 1264, 1265, 1266, 1267, 1268] (by decide +kernel) (by decide +kernel)
set_option maxRecDepth 20000 in
theorem gL_law_X7_next : GoodIn wsL_law (wsV RL 85 RX7 yX7_next wsX7_next) := goodIn_app (goodIn_of _ (by decide +kernel)) ggL_law_X7_next
set_option maxRecDepth 20000 in
theorem ggL_law_X8_next : GoodIn wsL_law wsX8_next := goodIn_r _ [639, 96, 607, 454, 423, 162, 424, 133, 134, 5, 135, 136, 137, 138, 139, 408, 409, 410, 140, 141, 142, 143, 95, 144, 608, 609, 610, 611, 97, 612, 613, 614, 615, 92, 616, 617, 618, 199, 200, 201, 202, 161, 163, 357, 358, 359, 360, 191, 192, 193, 194, 195, 196, 197, 198, 619, 620, 621, 622, 99, 623, 624, 625, 626, 372, 373, 374, 375, 376, 1235, 1236, 1237, 1238, 1239, 1240, 1241, 1242, 1243, 1244, 1245, 1246, 1247, 1248, 1249, 1250, 1251, 1252, 1253, 1254] (by decide +kernel) (by decide +kernel)
set_option maxRecDepth 20000 in
theorem gL_law_X8_next : GoodIn wsL_law (wsV RL 88 RX8 yX8_next wsX8_next) := goodIn_app (goodIn_of _ (by decide +kernel)) ggL_law_X8_next
set_option maxRecDepth 20000 in
theorem ggL_law_X7_steamFor : GoodIn wsL_law wsX7_steamFor := goodIn_r _ [643, 27, 112, 113, 114, 115, 584, 585, 2, 586, 116, 117, 118, 119, 120, 121, 122, 41, 123, 644, 645, 646, 26, 647, 70, 648, 649, 650, 651, 652, 69, 653, 423, 162, 424, 654, 655, 656, 14, 657, 49, 51, 58, 658, 617, 618, 157, 158, 159, 160, 161, 163, 164, 165, 166, 167, 168, 169, 659, 660, 661, 662, 596, 318, 319, 591, 592, 593, 594, 595, 663, 325, 326, 1222, 1223, 1224, 1225, 1226, 1227, 1228, 1229, 1230, 1231, 1232, 1233, 1234, 1274, 1275, 1255, 1256, 1257, 1258, 1259, 1260, 1261, 1262, 1263, 1264, 1265, 1266, 1267, 1268] (by decide +kernel) (by decide +kernel)
set_option maxRecDepth 20000 in
theorem gL_law_X7_steamFor : GoodIn wsL_law (wsV RL 89 RX7 yX7_steamFor wsX7_steamFor) := goodIn_app (goodIn_of _ (by decide +kernel)) ggL_law_X7_steamFor
set_option maxRecDepth 20000 in
theorem ggL_law_X8_steamFor : GoodIn wsL_law wsX8_steamFor := goodIn_r _ [667, 96, 607, 133, 134, 5, 135, 136, 137, 138, 139, 408, 409, 410, 140, 141, 142, 143, 95, 144, 608, 609, 610, 611, 97, 612, 613, 614, 615, 92, 616, 617, 162, 618, 199, 200, 201, 202, 161, 163, 357, 358, 359, 360, 191, 192, 193, 194, 195, 196, 197, 198, 619, 620, 621, 622, 99, 454, 423, 424, 623, 624, 625, 626, 372, 373, 374, 375, 376, 1235, 1236, 1237, 1238, 1239, 1240, 1241, 1242, 1243, 1244, 1245, 1246, 1247, 1248, 1249, 1250, 1251, 1252, 1253, 1254] (by decide +kernel) (by decide +kernel)
set_option maxRecDepth 20000 in
theorem gL_law_X8_steamFor : GoodIn wsL_law (wsV RL 92 RX8 yX8_steamFor wsX8_steamFor) := goodIn_app (goodIn_of _ (by decide +kernel)) ggL_law_X8_steamFor
set_option maxRecDepth 20000 in
theorem ggL_law_X7_row : GoodIn wsL_law wsX7_row := goodIn_r _ [671, 27, 672, 673, 674, 26, 675, 648, 676, 677, 678, 679, 69, 654, 655, 656, 14, 657, 49, 51, 58, 658, 617, 162, 618, 157, 158, 114, 159, 160, 161, 163, 164, 165, 166, 167, 168, 169, 119, 120, 121, 2, 122, 41, 123, 1222, 1223, 1224, 1225, 1226, 1227, 1228, 1229, 1230, 1231, 1232, 1233, 1234, 1274, 1275, 1255, 1256, 1257, 1258, 1259, 1260, 1261, 1262, 1263, 1264, 1265, 1266, 1267, 1268] (by decide +kernel) (by decide +kernel)
set_option maxRecDepth 20000 in
theorem gL_law_X7_row : GoodIn wsL_law (wsV RL 93 RX7 yX7_row wsX7_row) := goodIn_app (goodIn_of _ (by decide +kernel)) ggL_law_X7_row
set_option maxRecDepth 20000 in
theorem ggL_law_X8_row : GoodIn wsL_law wsX8_row := goodIn_r _ [683, 607, 97, 454, 423, 162, 424, 608, 609, 610, 5, 611, 612, 613, 614, 615, 92, 616, 617, 618, 199, 200, 201, 202, 161, 163, 357, 358, 359, 360, 191, 192, 193, 194, 195, 196, 197, 198, 140, 141, 142, 143, 95, 144, 1235, 1236, 1237, 1238, 1239, 1240, 1241, 1242, 1243, 1244, 1245, 1246, 1247, 1248, 1249, 1250, 1251, 1252, 1253, 1254] (by decide +kernel) (by decide +kernel)
set_option maxRecDepth 20000 in
theorem gL_law_X8_row : GoodIn wsL_law (wsV RL 97 RX8 yX8_row wsX8_row) := goodIn_app (goodIn_of _ (by decide +kernel)) ggL_law_X8_row
set_option maxRecDepth 20000 in
theorem ggL_law_X7_post : GoodIn wsL_law wsX7_post := goodIn_r _ [687, 15, 216, 217, 2, 218, 116, 117, 118, 119, 120, 121, 122, 41, 123, 688, 689, 690, 14, 691, 58, 294, 295, 296, 297, 49, 157, 158, 114, 159, 160, 161, 162, 163, 164, 165, 166, 167, 168, 169, 692, 465, 466, 467, 468, 469, 470, 1222, 1223, 1224, 1225, 1226, 1227, 1228, 1229, 1230, 1231, 1232, 1233, 1234, 1255, 1256, 1257, 1258, 1259, 1260, 1261, 1262, 1263, 1264, 1265, 1266, 1267, 1268] (by decide +kernel) (by decide +kernel)
set_option maxRecDepth 20000 in
theorem gL_law_X7_post : GoodIn wsL_law (wsV RL 98 RX7 yX7_post wsX7_post) := goodIn_app (goodIn_of _ (by decide +kernel)) ggL_law_X7_post
set_option maxRecDepth 20000 in
theorem ggL_law_X8_post : GoodIn wsL_law wsX8_post := goodIn_r _ [696, 697, 224, 225, 5, 226, 190, 137, 138, 139, 140, 141, 142, 143, 95, 144, 698, 699, 700, 701, 702, 616, 617, 162, 618, 195, 196, 197, 198, 92, 199, 200, 201, 202, 161, 163, 1235, 1236, 1237, 1238, 1239, 1240, 1241, 1242, 1243, 1244, 1245, 1246, 1247, 1248, 1249, 1250, 1251, 1252, 1253, 1254] (by decide +kernel) (by decide +kernel)
set_option maxRecDepth 20000 in
theorem gL_law_X8_post : GoodIn wsL_law (wsV RL 101 RX8 yX8_post wsX8_post) := goodIn_app (goodIn_of _ (by decide +kernel)) ggL_law_X8_post
set_option maxRecDepth 20000 in
theorem ggL_law_X7_posted : GoodIn wsL_law wsX7_posted := goodIn_r _ [706, 15, 231, 216, 217, 2, 218, 116, 117, 118, 119, 120, 121, 122, 41, 123, 688, 689, 690, 14, 691, 58, 294, 295, 296, 297, 49, 157, 158, 114, 159, 160, 161, 162, 163, 164, 165, 166, 167, 168, 169, 692, 465, 466, 467, 468, 469, 470, 707, 464, 1222, 1223, 1224, 1225, 1226, 1227, 1228, 1229, 1230, 1231, 1232, 1233, 1234, 1255, 1256, 1257, 1258, 1259, 1260, 1261, 1262, 1263, 1264, 1265, 1266, 1267, 1268] (by decide +kernel) (by decide +kernel)
set_option maxRecDepth 20000 in
theorem gL_law_X7_posted : GoodIn wsL_law (wsV RL 102 RX7 yX7_posted wsX7_posted) := goodIn_app (goodIn_of _ (by decide +kernel)) ggL_law_X7_posted
set_option maxRecDepth 20000 in
theorem ggL_law_X8_posted : GoodIn wsL_law wsX8_posted := goodIn_r _ [711, 702, 224, 225, 5, 226, 190, 137, 138, 139, 140, 141, 142, 143, 95, 144, 698, 699, 700, 701, 697, 616, 617, 162, 618, 195, 196, 197, 198, 92, 199, 200, 201, 202, 161, 163, 1235, 1236, 1237, 1238, 1239, 1240, 1241, 1242, 1243, 1244, 1245, 1246, 1247, 1248, 1249, 1250, 1251, 1252, 1253, 1254] (by decide +kernel) (by decide +kernel)
set_option maxRecDepth 20000 in
theorem gL_law_X8_posted : GoodIn wsL_law (wsV RL 105 RX8 yX8_posted wsX8_posted) := goodIn_app (goodIn_of _ (by decide +kernel)) ggL_law_X8_posted
set_option maxRecDepth 20000 in
theorem ggL_law_X7_trap : GoodIn wsL_law wsX7_trap := goodIn_r _ [715, 15, 22, 231, 216, 217, 2, 218, 116, 117, 118, 274, 275, 276, 277, 241, 119, 120, 121, 122, 41, 123, 716, 717, 718, 14, 719, 51, 58, 294, 295, 296, 297, 49, 157, 158, 114, 159, 160, 161, 162, 163, 164, 165, 166, 167, 168, 169, 278, 279, 280, 21, 281, 64, 282, 283, 284, 285, 286, 287, 288, 289, 707, 544, 545, 546, 547, 302, 303, 304, 305, 306, 113, 115, 548, 338, 339, 340, 317, 318, 319, 523, 426, 427, 428, 429, 423, 424, 336, 311, 312, 313, 430, 299, 300, 301, 307, 308, 309, 310, 314, 315, 316, 320, 321, 322, 323, 324, 325, 326, 327, 328, 329, 330, 331, 332, 333, 334, 335, 1222, 1223, 1224, 1225, 1226, 1227, 1228, 1229, 1230, 1231, 1232, 1233, 1234, 1255, 1256, 1257, 1258, 1259, 1260, 1261, 1262, 1263, 1264, 1265, 1266, 1267, 1268, 1269, 1270, 1271, 1272, 1273] (by decide +kernel) (by decide +kernel)
set_option maxRecDepth 20000 in
theorem gL_law_X7_trap : GoodIn wsL_law (wsV RL 106 RX7 yX7_trap wsX7_trap) := goodIn_app (goodIn_of _ (by decide +kernel)) ggL_law_X7_trap
set_option maxRecDepth 20000 in
theorem ggL_law_X8_trap : GoodIn wsL_law wsX8_trap := goodIn_r _ [723, 92, 454, 423, 162, 424, 224, 225, 5, 226, 190, 137, 138, 139, 345, 346, 347, 348, 140, 141, 142, 143, 95, 144, 528, 529, 530, 531, 504, 505, 506, 507, 94, 508, 509, 510, 532, 533, 534, 535, 353, 354, 355, 356, 207, 208, 209, 210, 349, 350, 351, 352, 357, 358, 359, 360, 191, 192, 193, 194, 195, 196, 197, 198, 199, 200, 201, 202, 161, 163, 446, 447, 448, 449, 450, 451, 452, 453, 445, 261, 262, 263, 264, 361, 362, 363, 364, 365, 366, 367, 368, 369, 370, 371, 372, 373, 374, 375, 376, 377, 378, 379, 380, 381, 382, 383, 384, 385, 386, 387, 388, 389, 390, 391, 511, 512, 513, 514, 1235, 1236, 1237, 1238, 1239, 1240, 1241, 1242, 1243, 1244, 1245, 1246, 1247, 1248, 1249, 1250, 1251, 1252, 1253, 1254] (by decide +kernel) (by decide +kernel)
set_option maxRecDepth 20000 in
theorem gL_law_X8_trap : GoodIn wsL_law (wsV RL 109 RX8 yX8_trap wsX8_trap) := goodIn_app (goodIn_of _ (by decide +kernel)) ggL_law_X8_trap
set_option maxRecDepth 20000 in
theorem ggL_law_X7_enough : GoodIn wsL_law wsX7_enough := goodIn_r _ [727, 43, 15, 215, 231, 707, 295, 296, 14, 297, 49, 157, 158, 114, 159, 160, 161, 162, 163, 164, 165, 166, 167, 168, 169, 728, 729, 730, 2, 731, 732, 180, 181, 182, 183, 184, 185, 1222, 1223, 1224, 1225, 1226, 1227, 1228, 1229, 1230, 1231, 1232, 1233, 1234, 1255, 1256, 1257, 1258, 1259, 1260, 1261, 1262, 1263, 1264, 1265, 1266, 1267, 1268] (by decide +kernel) (by decide +kernel)
set_option maxRecDepth 20000 in
theorem gL_law_X7_enough : GoodIn wsL_law (wsV RL 110 RX7 yX7_enough wsX7_enough) := goodIn_app (goodIn_of _ (by decide +kernel)) ggL_law_X7_enough
set_option maxRecDepth 20000 in
theorem ggL_law_X8_enough : GoodIn wsL_law wsX8_enough := goodIn_r _ [736, 737, 738, 5, 739, 740, 741, 742, 743, 191, 192, 193, 194, 92, 195, 196, 197, 198, 199, 200, 201, 202, 161, 162, 163, 1235, 1236, 1237, 1238, 1239, 1240, 1241, 1242, 1243, 1244, 1245, 1246, 1247, 1248, 1249, 1250, 1251, 1252, 1253, 1254] (by decide +kernel) (by decide +kernel)
set_option maxRecDepth 20000 in
theorem gL_law_X8_enough : GoodIn wsL_law (wsV RL 113 RX8 yX8_enough wsX8_enough) := goodIn_app (goodIn_of _ (by decide +kernel)) ggL_law_X8_enough
set_option maxRecDepth 20000 in
theorem ggL_law_X7_fits : GoodIn wsL_law wsX7_fits := goodIn_r _ [747, 37, 15, 231, 241, 22, 748, 749, 2, 750, 116, 117, 118, 119, 120, 121, 122, 41, 123, 751, 752, 753, 39, 754, 755, 290, 291, 292, 14, 293, 51, 294, 295, 296, 297, 49, 157, 158, 114, 159, 160, 161, 162, 163, 164, 165, 166, 167, 168, 169, 278, 279, 280, 21, 281, 64, 282, 283, 284, 285, 286, 287, 288, 289, 756, 757, 758, 759, 760, 761, 523, 426, 427, 428, 429, 423, 424, 302, 303, 304, 305, 306, 113, 115, 336, 311, 312, 313, 430, 299, 300, 301, 307, 308, 309, 310, 314, 315, 316, 317, 318, 319, 320, 321, 322, 323, 324, 325, 326, 327, 328, 329, 330, 331, 332, 333, 334, 335, 1222, 1223, 1224, 1225, 1226, 1227, 1228, 1229, 1230, 1231, 1232, 1233, 1234, 1255, 1256, 1257, 1258, 1259, 1260, 1261, 1262, 1263, 1264, 1265, 1266, 1267, 1268, 1285, 1286, 1287, 1269, 1270, 1271, 1272, 1273] (by decide +kernel) (by decide +kernel)
set_option maxRecDepth 20000 in
theorem gL_law_X7_fits : GoodIn wsL_law (wsV RL 114 RX7 yX7_fits wsX7_fits) := goodIn_app (goodIn_of _ (by decide +kernel)) ggL_law_X7_fits
set_option maxRecDepth 20000 in
theorem ggL_law_X8_fits : GoodIn wsL_law wsX8_fits := goodIn_r _ [765, 92, 103, 104, 766, 767, 768, 5, 769, 102, 770, 771, 772, 190, 137, 138, 139, 140, 141, 142, 143, 95, 144, 504, 505, 506, 507, 94, 508, 509, 510, 207, 208, 209, 210, 446, 447, 448, 449, 353, 354, 355, 356, 450, 451, 452, 453, 454, 423, 162, 424, 445, 261, 262, 263, 264, 361, 362, 363, 364, 365, 366, 367, 368, 369, 370, 371, 372, 373, 374, 375, 376, 377, 378, 379, 357, 358, 359, 360, 191, 192, 193, 194, 195, 196, 197, 198, 199, 200, 201, 202, 161, 163, 380, 381, 382, 383, 384, 385, 386, 387, 388, 389, 390, 391, 511, 512, 513, 514, 1235, 1236, 1237, 1238, 1239, 1240, 1241, 1242, 1243, 1244, 1245, 1246, 1247, 1248, 1249, 1250, 1251, 1252, 1253, 1254] (by decide +kernel) (by decide +kernel)
set_option maxRecDepth 20000 in
theorem gL_law_X8_fits : GoodIn wsL_law (wsV RL 117 RX8 yX8_fits wsX8_fits) := goodIn_app (goodIn_of _ (by decide +kernel)) ggL_law_X8_fits
set_option maxRecDepth 20000 in
theorem ggL_law_X7_swaps : GoodIn wsL_law wsX7_swaps := goodIn_r _ [776, 15, 777, 778, 779, 14, 780, 178, 56, 781, 782, 783, 784, 119, 120, 121, 2, 122, 41, 123, 1222, 1223, 1224, 1225, 1226, 1227, 1228, 1229, 1230, 1231, 1232, 1233, 1234, 1255, 1256, 1257, 1258, 1259, 1260, 1261, 1262, 1263, 1264, 1265, 1266, 1267, 1268] (by decide +kernel) (by decide +kernel)
set_option maxRecDepth 20000 in
theorem gL_law_X7_swaps : GoodIn wsL_law (wsV RL 118 RX7 yX7_swaps wsX7_swaps) := goodIn_app (goodIn_of _ (by decide +kernel)) ggL_law_X7_swaps
set_option maxRecDepth 20000 in
theorem ggL_law_X8_swaps : GoodIn wsL_law wsX8_swaps := goodIn_r _ [788, 92, 207, 208, 209, 5, 210, 140, 141, 142, 143, 95, 144, 1235, 1236, 1237, 1238, 1239, 1240, 1241, 1242, 1243, 1244, 1245, 1246, 1247, 1248, 1249, 1250, 1251, 1252, 1253, 1254] (by decide +kernel) (by decide +kernel)
set_option maxRecDepth 20000 in
theorem gL_law_X8_swaps : GoodIn wsL_law (wsV RL 121 RX8 yX8_swaps wsX8_swaps) := goodIn_app (goodIn_of _ (by decide +kernel)) ggL_law_X8_swaps
set_option maxRecDepth 20000 in
theorem ggL_law_X7_swap : GoodIn wsL_law wsX7_swap := goodIn_r _ [792, 15, 273, 274, 275, 276, 2, 277, 241, 116, 117, 118, 119, 120, 121, 122, 41, 123, 124, 125, 126, 1222, 1223, 1224, 1225, 1226, 1227, 1228, 1229, 1230, 1231, 1232, 1233, 1234, 1255, 1256, 1257, 1258, 1259, 1260, 1261, 1262, 1263, 1264, 1265, 1266, 1267, 1268] (by decide +kernel) (by decide +kernel)
set_option maxRecDepth 20000 in
theorem gL_law_X7_swap : GoodIn wsL_law (wsV RL 122 RX7 yX7_swap wsX7_swap) := goodIn_app (goodIn_of _ (by decide +kernel)) ggL_law_X7_swap
set_option maxRecDepth 20000 in
theorem ggL_law_X8_swap : GoodIn wsL_law wsX8_swap := goodIn_r _ [796, 345, 346, 347, 5, 348, 92, 137, 138, 139, 140, 141, 142, 143, 95, 144, 207, 208, 209, 210, 261, 262, 263, 264, 1235, 1236, 1237, 1238, 1239, 1240, 1241, 1242, 1243, 1244, 1245, 1246, 1247, 1248, 1249, 1250, 1251, 1252, 1253, 1254] (by decide +kernel) (by decide +kernel)
set_option maxRecDepth 20000 in
theorem gL_law_X8_swap : GoodIn wsL_law (wsV RL 125 RX8 yX8_swap wsX8_swap) := goodIn_app (goodIn_of _ (by decide +kernel)) ggL_law_X8_swap
set_option maxRecDepth 20000 in
theorem ggL_law_X7_tax : GoodIn wsL_law wsX7_tax := goodIn_r _ [800, 15, 231, 22, 274, 275, 276, 2, 277, 241, 116, 117, 118, 119, 120, 121, 122, 41, 123, 290, 291, 292, 14, 293, 51, 294, 295, 296, 297, 49, 157, 158, 114, 159, 160, 161, 162, 163, 164, 165, 166, 167, 168, 169, 278, 279, 280, 21, 281, 64, 282, 283, 284, 285, 286, 287, 288, 289, 425, 426, 427, 428, 429, 423, 424, 302, 303, 304, 305, 306, 113, 115, 336, 311, 312, 313, 430, 299, 300, 301, 307, 308, 309, 310, 314, 315, 316, 317, 318, 319, 320, 321, 322, 323, 324, 325, 326, 327, 328, 329, 330, 331, 332, 333, 334, 335, 801, 802, 803, 804, 1222, 1223, 1224, 1225, 1226, 1227, 1228, 1229, 1230, 1231, 1232, 1233, 1234, 1255, 1256, 1257, 1258, 1259, 1260, 1261, 1262, 1263, 1264, 1265, 1266, 1267, 1268, 1269, 1270, 1271, 1272, 1273] (by decide +kernel) (by decide +kernel)
set_option maxRecDepth 20000 in
theorem gL_law_X7_tax : GoodIn wsL_law (wsV RL 126 RX7 yX7_tax wsX7_tax) := goodIn_app (goodIn_of _ (by decide +kernel)) ggL_law_X7_tax
set_option maxRecDepth 20000 in
theorem ggL_law_X8_tax : GoodIn wsL_law wsX8_tax := goodIn_r _ [808, 345, 346, 347, 5, 348, 92, 137, 138, 139, 500, 501, 502, 503, 140, 141, 142, 143, 95, 144, 504, 505, 506, 507, 94, 508, 509, 510, 446, 447, 448, 449, 353, 354, 355, 356, 207, 208, 209, 210, 450, 451, 452, 453, 454, 423, 162, 424, 445, 261, 262, 263, 264, 361, 362, 363, 364, 365, 366, 367, 368, 369, 370, 371, 372, 373, 374, 375, 376, 377, 378, 379, 357, 358, 359, 360, 191, 192, 193, 194, 195, 196, 197, 198, 199, 200, 201, 202, 161, 163, 380, 381, 382, 383, 384, 385, 386, 387, 388, 389, 390, 391, 809, 810, 811, 812, 511, 512, 513, 514, 1235, 1236, 1237, 1238, 1239, 1240, 1241, 1242, 1243, 1244, 1245, 1246, 1247, 1248, 1249, 1250, 1251, 1252, 1253, 1254] (by decide +kernel) (by decide +kernel)
set_option maxRecDepth 20000 in
theorem gL_law_X8_tax : GoodIn wsL_law (wsV RL 129 RX8 yX8_tax wsX8_tax) := goodIn_app (goodIn_of _ (by decide +kernel)) ggL_law_X8_tax
set_option maxRecDepth 20000 in
theorem ggL_law_X7_boilers : GoodIn wsL_law wsX7_boilers := goodIn_r _ [816, 44, 817, 116, 117, 2, 118, 119, 120, 121, 122, 41, 123, 1222, 1223, 1224, 1225, 1226, 1227, 1228, 1229, 1230, 1231, 1232, 1233, 1234] (by decide +kernel) (by decide +kernel)
set_option maxRecDepth 20000 in
theorem gL_law_X7_boilers : GoodIn wsL_law (wsV RL 130 RX7 yX7_boilers wsX7_boilers) := goodIn_app (goodIn_of _ (by decide +kernel)) ggL_law_X7_boilers
set_option maxRecDepth 20000 in
theorem ggL_law_X8_boilers : GoodIn wsL_law wsX8_boilers := goodIn_r _ [821, 822, 100, 823, 137, 138, 5, 139, 140, 141, 142, 143, 95, 144, 1235, 1236, 1237, 1238, 1239, 1240, 1241, 1242, 1243, 1244, 1245, 1246, 1247, 1248, 1249, 1250, 1251, 1252, 1253, 1254] (by decide +kernel) (by decide +kernel)
set_option maxRecDepth 20000 in
theorem gL_law_X8_boilers : GoodIn wsL_law (wsV RL 134 RX8 yX8_boilers wsX8_boilers) := goodIn_app (goodIn_of _ (by decide +kernel)) ggL_law_X8_boilers
set_option maxRecDepth 20000 in
theorem ggL_law_X7_steams : GoodIn wsL_law wsX7_steams := goodIn_r _ [827, 15, 415, 416, 110, 422, 423, 162, 424, 231, 116, 117, 2, 118, 119, 120, 121, 122, 41, 123, 828, 829, 830, 14, 831, 59, 832, 290, 291, 292, 293, 51, 294, 295, 296, 297, 49, 157, 158, 114, 159, 160, 161, 163, 164, 165, 166, 167, 168, 169, 417, 418, 419, 420, 241, 22, 421, 278, 279, 280, 21, 281, 64, 282, 283, 284, 285, 286, 287, 288, 289, 425, 426, 427, 428, 429, 302, 303, 304, 305, 306, 113, 115, 336, 311, 312, 313, 430, 299, 300, 301, 307, 308, 309, 310, 314, 315, 316, 317, 318, 319, 320, 321, 322, 323, 324, 325, 326, 327, 328, 329, 330, 331, 332, 333, 334, 335, 431, 432, 433, 434, 337, 338, 339, 340, 1222, 1223, 1224, 1225, 1226, 1227, 1228, 1229, 1230, 1231, 1232, 1233, 1234, 1255, 1256, 1257, 1258, 1259, 1260, 1261, 1262, 1263, 1264, 1265, 1266, 1267, 1268, 1269, 1270, 1271, 1272, 1273] (by decide +kernel) (by decide +kernel)
set_option maxRecDepth 20000 in
theorem gL_law_X7_steams : GoodIn wsL_law (wsV RL 135 RX7 yX7_steams wsX7_steams) := goodIn_app (goodIn_of _ (by decide +kernel)) ggL_law_X7_steams
set_option maxRecDepth 20000 in
theorem ggL_law_X8_steams : GoodIn wsL_law wsX8_steams := goodIn_r _ [836, 837, 92, 445, 454, 423, 162, 424, 137, 138, 5, 139, 140, 141, 142, 143, 95, 144, 838, 839, 840, 841, 842, 446, 447, 448, 449, 353, 354, 355, 356, 207, 208, 209, 210, 450, 451, 452, 453, 261, 262, 263, 264, 361, 362, 363, 364, 365, 366, 367, 368, 369, 370, 371, 372, 373, 374, 375, 376, 377, 378, 379, 357, 358, 359, 360, 191, 192, 193, 194, 195, 196, 197, 198, 199, 200, 201, 202, 161, 163, 380, 381, 382, 383, 384, 385, 386, 387, 388, 389, 390, 391, 349, 350, 351, 352, 1235, 1236, 1237, 1238, 1239, 1240, 1241, 1242, 1243, 1244, 1245, 1246, 1247, 1248, 1249, 1250, 1251, 1252, 1253, 1254] (by decide +kernel) (by decide +kernel)
set_option maxRecDepth 20000 in
theorem gL_law_X8_steams : GoodIn wsL_law (wsV RL 138 RX8 yX8_steams wsX8_steams) := goodIn_app (goodIn_of _ (by decide +kernel)) ggL_law_X8_steams
set_option maxRecDepth 20000 in
theorem ggL_law_X7_seed : GoodIn wsL_law wsX7_seed := goodIn_r _ [846, 15, 847, 1222, 1223, 1224, 1225, 1226, 1227, 1228, 1229, 1230, 1231, 1232, 1233, 1234, 1255, 1256, 1257, 1258, 1259, 1260, 1261, 1262, 1263, 1264, 1265, 1266, 1267, 1268] (by decide +kernel) (by decide +kernel)
set_option maxRecDepth 20000 in
theorem gL_law_X7_seed : GoodIn wsL_law (wsV RL 139 RX7 yX7_seed wsX7_seed) := goodIn_app (goodIn_of _ (by decide +kernel)) ggL_law_X7_seed
set_option maxRecDepth 20000 in
theorem ggL_law_X8_seed : GoodIn wsL_law wsX8_seed := goodIn_r _ [851, 145, 146, 147, 5, 148, 92, 1235, 1236, 1237, 1238, 1239, 1240, 1241, 1242, 1243, 1244, 1245, 1246, 1247, 1248, 1249, 1250, 1251, 1252, 1253, 1254] (by decide +kernel) (by decide +kernel)
set_option maxRecDepth 20000 in
theorem gL_law_X8_seed : GoodIn wsL_law (wsV RL 142 RX8 yX8_seed wsX8_seed) := goodIn_app (goodIn_of _ (by decide +kernel)) ggL_law_X8_seed
set_option maxRecDepth 20000 in
theorem ggL_law_X7_feed : GoodIn wsL_law wsX7_feed := goodIn_r _ [855, 31, 856, 116, 117, 2, 118, 119, 120, 121, 122, 41, 123, 857, 858, 859, 30, 860, 75, 861, 76, 862, 863, 864, 1222, 1223, 1224, 1225, 1226, 1227, 1228, 1229, 1230, 1231, 1232, 1233, 1234, 1276, 1277, 1278, 1279, 1280, 1281] (by decide +kernel) (by decide +kernel)
set_option maxRecDepth 20000 in
theorem gL_law_X7_feed : GoodIn wsL_law (wsV RL 143 RX7 yX7_feed wsX7_feed) := goodIn_app (goodIn_of _ (by decide +kernel)) ggL_law_X7_feed
set_option maxRecDepth 20000 in
theorem ggL_law_X8_feed : GoodIn wsL_law wsX8_feed := goodIn_r _ [868, 132, 869, 101, 137, 138, 5, 139, 140, 141, 142, 143, 95, 144, 1235, 1236, 1237, 1238, 1239, 1240, 1241, 1242, 1243, 1244, 1245, 1246, 1247, 1248, 1249, 1250, 1251, 1252, 1253, 1254] (by decide +kernel) (by decide +kernel)
set_option maxRecDepth 20000 in
theorem gL_law_X8_feed : GoodIn wsL_law (wsV RL 146 RX8 yX8_feed wsX8_feed) := goodIn_app (goodIn_of _ (by decide +kernel)) ggL_law_X8_feed
set_option maxRecDepth 20000 in
theorem ggL_law_X7_wipe : GoodIn wsL_law wsX7_wipe := goodIn_r _ [873, 31, 856, 1222, 1223, 1224, 1225, 1226, 1227, 1228, 1229, 1230, 1231, 1232, 1233, 1234, 1276, 1277, 1278, 1279, 1280, 1281] (by decide +kernel) (by decide +kernel)
set_option maxRecDepth 20000 in
theorem gL_law_X7_wipe : GoodIn wsL_law (wsV RL 147 RX7 yX7_wipe wsX7_wipe) := goodIn_app (goodIn_of _ (by decide +kernel)) ggL_law_X7_wipe
set_option maxRecDepth 20000 in
theorem ggL_law_X8_wipe : GoodIn wsL_law wsX8_wipe := goodIn_r _ [877, 869, 1235, 1236, 1237, 1238, 1239, 1240, 1241, 1242, 1243, 1244, 1245, 1246, 1247, 1248, 1249, 1250, 1251, 1252, 1253, 1254] (by decide +kernel) (by decide +kernel)
set_option maxRecDepth 20000 in
theorem gL_law_X8_wipe : GoodIn wsL_law (wsV RL 150 RX8 yX8_wipe wsX8_wipe) := goodIn_app (goodIn_of _ (by decide +kernel)) ggL_law_X8_wipe
set_option maxRecDepth 20000 in
theorem ggL_law_X7_text : GoodIn wsL_law wsX7_text := goodIn_r _ [881, 17, 15, 35, 31, 856, 882, 883, 884, 14, 885, 49, 886, 887, 888, 889, 50, 51, 52, 53, 54, 55, 56, 57, 58, 178, 890, 891, 59, 892, 893, 894, 34, 895, 81, 896, 897, 898, 899, 900, 30, 901, 902, 903, 904, 905, 906, 907, 861, 75, 76, 908, 909, 910, 911, 912, 82, 913, 914, 915, 916, 917, 918, 919, 920, 921, 922, 923, 924, 925, 926, 927, 928, 929, 930, 931, 932, 933, 934, 935, 936, 937, 938, 939, 940, 941, 942, 943, 944, 945, 946, 947, 948, 949, 950, 951, 952, 953, 954, 955, 956, 957, 958, 959, 960, 961, 962, 963, 964, 965, 966, 967, 968, 969, 970, 971, 972, 973, 974, 975, 976, 977, 978, 979, 980, 981, 982, 983, 984, 246, 247, 248, 985, 986, 987, 988, 989, 990, 991, 992, 993, 994, 995, 996, 997, 998, 999, 1000, 1001, 1002, 1003, 1004, 1005, 1006, 1007, 1008, 1009, 1010, 1011, 1012, 1013, 1014, 1015, 1222, 1223, 1224, 1225, 1226, 1227, 1228, 1229, 1230, 1231, 1232, 1233, 1234, 1276, 1277, 1278, 1279, 1280, 1281, 1255, 1256, 1257, 1258, 1259, 1260, 1261, 1262, 1263, 1264, 1265, 1266, 1267, 1268, 1282, 1283, 1284] (by decide +kernel) (by decide +kernel)
set_option maxRecDepth 20000 in
theorem gL_law_X7_text : GoodIn wsL_law (wsV RL 151 RX7 yX7_text wsX7_text) := goodIn_app (goodIn_of _ (by decide +kernel)) ggL_law_X7_text
set_option maxRecDepth 20000 in
theorem ggL_law_X8_text : GoodIn wsL_law wsX8_text := goodIn_r _ [1019, 1020, 1021, 1022, 869, 504, 505, 506, 5, 507, 92, 94, 508, 509, 510, 1023, 1024, 1025, 1026, 1027, 1028, 1029, 1030, 101, 137, 138, 139, 1031, 1032, 1033, 1034, 1035, 1036, 1037, 1038, 1039, 1040, 1041, 1042, 1043, 927, 928, 929, 930, 931, 932, 933, 934, 935, 936, 937, 1044, 939, 940, 941, 942, 943, 944, 945, 946, 947, 948, 949, 950, 951, 952, 953, 954, 955, 956, 957, 958, 959, 960, 961, 962, 963, 964, 965, 966, 967, 968, 969, 970, 971, 972, 973, 974, 1045, 1046, 1047, 1048, 1049, 1050, 1051, 1052, 257, 258, 259, 260, 261, 262, 263, 264, 1053, 1054, 1055, 1056, 1057, 1058, 1059, 1060, 1061, 1062, 1063, 1064, 1065, 1066, 1067, 1068, 511, 512, 513, 514, 1235, 1236, 1237, 1238, 1239, 1240, 1241, 1242, 1243, 1244, 1245, 1246, 1247, 1248, 1249, 1250, 1251, 1252, 1253, 1254] (by decide +kernel) (by decide +kernel)
set_option maxRecDepth 20000 in
theorem gL_law_X8_text : GoodIn wsL_law (wsV RL 154 RX8 yX8_text wsX8_text) := goodIn_app (goodIn_of _ (by decide +kernel)) ggL_law_X8_text
set_option maxRecDepth 20000 in
theorem ggL_law_X7_hold : GoodIn wsL_law wsX7_hold := goodIn_r _ [1072, 15, 1073, 1074, 1075, 2, 1076, 116, 117, 118, 274, 275, 276, 277, 241, 119, 120, 121, 122, 41, 123, 1222, 1223, 1224, 1225, 1226, 1227, 1228, 1229, 1230, 1231, 1232, 1233, 1234, 1255, 1256, 1257, 1258, 1259, 1260, 1261, 1262, 1263, 1264, 1265, 1266, 1267, 1268] (by decide +kernel) (by decide +kernel)
set_option maxRecDepth 20000 in
theorem gL_law_X7_hold : GoodIn wsL_law (wsV RL 155 RX7 yX7_hold wsX7_hold) := goodIn_app (goodIn_of _ (by decide +kernel)) ggL_law_X7_hold
set_option maxRecDepth 20000 in
theorem ggL_law_X8_hold : GoodIn wsL_law wsX8_hold := goodIn_r _ [1080, 92, 1081, 1082, 5, 1083, 131, 137, 138, 139, 345, 346, 347, 348, 140, 141, 142, 143, 95, 144, 1235, 1236, 1237, 1238, 1239, 1240, 1241, 1242, 1243, 1244, 1245, 1246, 1247, 1248, 1249, 1250, 1251, 1252, 1253, 1254] (by decide +kernel) (by decide +kernel)
set_option maxRecDepth 20000 in
theorem gL_law_X8_hold : GoodIn wsL_law (wsV RL 158 RX8 yX8_hold wsX8_hold) := goodIn_app (goodIn_of _ (by decide +kernel)) ggL_law_X8_hold
set_option maxRecDepth 20000 in
theorem ggL_law_X7_as : GoodIn wsL_law wsX7_as := goodIn_r _ [1087, 15, 1073, 269, 1074, 1075, 2, 1076, 116, 117, 118, 242, 243, 244, 119, 120, 121, 122, 41, 123, 274, 275, 276, 277, 241, 1088, 1089, 21, 1090, 1091, 1222, 1223, 1224, 1225, 1226, 1227, 1228, 1229, 1230, 1231, 1232, 1233, 1234, 1255, 1256, 1257, 1258, 1259, 1260, 1261, 1262, 1263, 1264, 1265, 1266, 1267, 1268] (by decide +kernel) (by decide +kernel)
set_option maxRecDepth 20000 in
theorem gL_law_X7_as : GoodIn wsL_law (wsV RL 159 RX7 yX7_as wsX7_as) := goodIn_app (goodIn_of _ (by decide +kernel)) ggL_law_X7_as
set_option maxRecDepth 20000 in
theorem ggL_law_X8_as : GoodIn wsL_law wsX8_as := goodIn_r _ [1095, 92, 1081, 1082, 5, 1083, 131, 137, 138, 139, 253, 254, 255, 256, 140, 141, 142, 143, 95, 144, 207, 208, 209, 210, 1096, 1097, 1098, 1099, 1100, 1101, 1235, 1236, 1237, 1238, 1239, 1240, 1241, 1242, 1243, 1244, 1245, 1246, 1247, 1248, 1249, 1250, 1251, 1252, 1253, 1254] (by decide +kernel) (by decide +kernel)
set_option maxRecDepth 20000 in
theorem gL_law_X8_as : GoodIn wsL_law (wsV RL 162 RX8 yX8_as wsX8_as) := goodIn_app (goodIn_of _ (by decide +kernel)) ggL_law_X8_as
set_option maxRecDepth 20000 in
theorem ggL_law_X7_sheet : GoodIn wsL_law wsX7_sheet := goodIn_r _ [1105, 37, 1106, 748, 749, 2, 750, 116, 117, 118, 119, 120, 121, 122, 41, 123, 1107, 1108, 1109, 39, 1110, 755, 1111, 87, 1222, 1223, 1224, 1225, 1226, 1227, 1228, 1229, 1230, 1231, 1232, 1233, 1234, 1285, 1286, 1287] (by decide +kernel) (by decide +kernel)
set_option maxRecDepth 20000 in
theorem gL_law_X7_sheet : GoodIn wsL_law (wsV RL 163 RX7 yX7_sheet wsX7_sheet) := goodIn_app (goodIn_of _ (by decide +kernel)) ggL_law_X7_sheet
set_option maxRecDepth 20000 in
theorem ggL_law_X8_sheet : GoodIn wsL_law wsX8_sheet := goodIn_r _ [1115, 102, 103, 104, 770, 771, 5, 772, 190, 137, 138, 139, 140, 141, 142, 143, 95, 144, 1235, 1236, 1237, 1238, 1239, 1240, 1241, 1242, 1243, 1244, 1245, 1246, 1247, 1248, 1249, 1250, 1251, 1252, 1253, 1254] (by decide +kernel) (by decide +kernel)
set_option maxRecDepth 20000 in
theorem gL_law_X8_sheet : GoodIn wsL_law (wsV RL 166 RX8 yX8_sheet wsX8_sheet) := goodIn_app (goodIn_of _ (by decide +kernel)) ggL_law_X8_sheet
set_option maxRecDepth 20000 in
theorem ggL_law_X7_write : GoodIn wsL_law wsX7_write := goodIn_r _ [1119, 37, 1106, 748, 749, 2, 750, 116, 117, 118, 119, 120, 121, 122, 41, 123, 751, 752, 753, 39, 754, 755, 1120, 1121, 1122, 1123, 87, 1222, 1223, 1224, 1225, 1226, 1227, 1228, 1229, 1230, 1231, 1232, 1233, 1234, 1285, 1286, 1287] (by decide +kernel) (by decide +kernel)
set_option maxRecDepth 20000 in
theorem gL_law_X7_write : GoodIn wsL_law (wsV RL 167 RX7 yX7_write wsX7_write) := goodIn_app (goodIn_of _ (by decide +kernel)) ggL_law_X7_write
set_option maxRecDepth 20000 in
theorem ggL_law_X8_write : GoodIn wsL_law wsX8_write := goodIn_r _ [1127, 103, 104, 102, 766, 767, 768, 5, 769, 770, 771, 772, 190, 137, 138, 139, 140, 141, 142, 143, 95, 144, 1235, 1236, 1237, 1238, 1239, 1240, 1241, 1242, 1243, 1244, 1245, 1246, 1247, 1248, 1249, 1250, 1251, 1252, 1253, 1254] (by decide +kernel) (by decide +kernel)
set_option maxRecDepth 20000 in
theorem gL_law_X8_write : GoodIn wsL_law (wsV RL 170 RX8 yX8_write wsX8_write) := goodIn_app (goodIn_of _ (by decide +kernel)) ggL_law_X8_write
set_option maxRecDepth 20000 in
theorem ggL_law_X7_copy : GoodIn wsL_law wsX7_copy := goodIn_r _ [1131, 37, 1132, 1133, 1134, 887, 888, 889, 748, 749, 2, 750, 116, 117, 118, 119, 120, 121, 122, 41, 123, 751, 752, 753, 39, 754, 755, 1135, 1136, 1137, 1138, 1111, 1222, 1223, 1224, 1225, 1226, 1227, 1228, 1229, 1230, 1231, 1232, 1233, 1234, 1285, 1286, 1287] (by decide +kernel) (by decide +kernel)
set_option maxRecDepth 20000 in
theorem gL_law_X7_copy : GoodIn wsL_law (wsV RL 171 RX7 yX7_copy wsX7_copy) := goodIn_app (goodIn_of _ (by decide +kernel)) ggL_law_X7_copy
set_option maxRecDepth 20000 in
theorem ggL_law_X8_copy : GoodIn wsL_law wsX8_copy := goodIn_r _ [1142, 102, 103, 105, 104, 770, 771, 5, 772, 190, 137, 138, 139, 140, 141, 142, 143, 95, 144, 1235, 1236, 1237, 1238, 1239, 1240, 1241, 1242, 1243, 1244, 1245, 1246, 1247, 1248, 1249, 1250, 1251, 1252, 1253, 1254] (by decide +kernel) (by decide +kernel)
set_option maxRecDepth 20000 in
theorem gL_law_X8_copy : GoodIn wsL_law (wsV RL 175 RX8 yX8_copy wsX8_copy) := goodIn_app (goodIn_of _ (by decide +kernel)) ggL_law_X8_copy
set_option maxRecDepth 20000 in
theorem ggL_law_X7_load : GoodIn wsL_law wsX7_load := goodIn_r _ [1146, 37, 1106, 1133, 15, 110, 748, 749, 2, 750, 116, 117, 118, 119, 120, 121, 122, 41, 123, 751, 752, 753, 39, 754, 755, 1222, 1223, 1224, 1225, 1226, 1227, 1228, 1229, 1230, 1231, 1232, 1233, 1234, 1285, 1286, 1287, 1255, 1256, 1257, 1258, 1259, 1260, 1261, 1262, 1263, 1264, 1265, 1266, 1267, 1268] (by decide +kernel) (by decide +kernel)
set_option maxRecDepth 20000 in
theorem gL_law_X7_load : GoodIn wsL_law (wsV RL 176 RX7 yX7_load wsX7_load) := goodIn_app (goodIn_of _ (by decide +kernel)) ggL_law_X7_load
set_option maxRecDepth 20000 in
theorem ggL_law_X8_load : GoodIn wsL_law wsX8_load := goodIn_r _ [1150, 103, 104, 131, 92, 766, 767, 768, 5, 769, 102, 770, 771, 772, 190, 137, 138, 139, 140, 141, 142, 143, 95, 144, 1235, 1236, 1237, 1238, 1239, 1240, 1241, 1242, 1243, 1244, 1245, 1246, 1247, 1248, 1249, 1250, 1251, 1252, 1253, 1254] (by decide +kernel) (by decide +kernel)
set_option maxRecDepth 20000 in
theorem gL_law_X8_load : GoodIn wsL_law (wsV RL 179 RX8 yX8_load wsX8_load) := goodIn_app (goodIn_of _ (by decide +kernel)) ggL_law_X8_load
set_option maxRecDepth 20000 in
theorem ggL_law_X7_judge : GoodIn wsL_law wsX7_judge := goodIn_r _ [1154, 37, 15, 231, 1106, 1133, 748, 749, 2, 750, 116, 117, 118, 119, 120, 121, 122, 41, 123, 751, 752, 753, 39, 754, 755, 290, 291, 292, 14, 293, 51, 294, 295, 296, 297, 49, 157, 158, 114, 159, 160, 161, 162, 163, 164, 165, 166, 167, 168, 169, 112, 113, 115, 1155, 318, 319, 1156, 1222, 1223, 1224, 1225, 1226, 1227, 1228, 1229, 1230, 1231, 1232, 1233, 1234, 1255, 1256, 1257, 1258, 1259, 1260, 1261, 1262, 1263, 1264, 1265, 1266, 1267, 1268, 1285, 1286, 1287] (by decide +kernel) (by decide +kernel)
set_option maxRecDepth 20000 in
theorem gL_law_X7_judge : GoodIn wsL_law (wsV RL 180 RX7 yX7_judge wsX7_judge) := goodIn_app (goodIn_of _ (by decide +kernel)) ggL_law_X7_judge
set_option maxRecDepth 20000 in
theorem ggL_law_X8_judge : GoodIn wsL_law wsX8_judge := goodIn_r _ [1160, 103, 766, 767, 768, 5, 769, 102, 770, 771, 772, 190, 137, 138, 139, 140, 141, 142, 143, 95, 144, 1161, 1162, 1163, 1164, 104, 133, 134, 135, 136, 357, 358, 359, 360, 191, 192, 193, 194, 92, 195, 196, 197, 198, 199, 200, 201, 202, 161, 162, 163, 1235, 1236, 1237, 1238, 1239, 1240, 1241, 1242, 1243, 1244, 1245, 1246, 1247, 1248, 1249, 1250, 1251, 1252, 1253, 1254] (by decide +kernel) (by decide +kernel)
set_option maxRecDepth 20000 in
theorem gL_law_X8_judge : GoodIn wsL_law (wsV RL 183 RX8 yX8_judge wsX8_judge) := goodIn_app (goodIn_of _ (by decide +kernel)) ggL_law_X8_judge
set_option maxRecDepth 20000 in
theorem ggL_law_X7_image : GoodIn wsL_law wsX7_image := goodIn_r _ [1168, 16, 15, 18, 882, 883, 884, 14, 885, 49, 886, 887, 888, 889, 50, 51, 52, 53, 54, 55, 56, 57, 58, 178, 890, 891, 59, 1222, 1223, 1224, 1225, 1226, 1227, 1228, 1229, 1230, 1231, 1232, 1233, 1234, 1255, 1256, 1257, 1258, 1259, 1260, 1261, 1262, 1263, 1264, 1265, 1266, 1267, 1268] (by decide +kernel) (by decide +kernel)
set_option maxRecDepth 20000 in
theorem gL_law_X7_image : GoodIn wsL_law (wsV RL 184 RX7 yX7_image wsX7_image) := goodIn_app (goodIn_of _ (by decide +kernel)) ggL_law_X7_image
set_option maxRecDepth 20000 in
theorem ggL_law_X8_image : GoodIn wsL_law wsX8_image := goodIn_r _ [1172, 92, 93, 1173, 508, 509, 5, 510, 1235, 1236, 1237, 1238, 1239, 1240, 1241, 1242, 1243, 1244, 1245, 1246, 1247, 1248, 1249, 1250, 1251, 1252, 1253, 1254] (by decide +kernel) (by decide +kernel)
set_option maxRecDepth 20000 in
theorem gL_law_X8_image : GoodIn wsL_law (wsV RL 187 RX8 yX8_image wsX8_image) := goodIn_app (goodIn_of _ (by decide +kernel)) ggL_law_X8_image
set_option maxRecDepth 20000 in
theorem ggL_law_X7_undo : GoodIn wsL_law wsX7_undo := goodIn_r _ [1177, 18, 15, 16, 415, 119, 120, 121, 2, 122, 41, 123, 882, 883, 884, 14, 885, 49, 886, 887, 888, 889, 50, 51, 52, 53, 54, 55, 56, 57, 58, 178, 890, 891, 59, 1222, 1223, 1224, 1225, 1226, 1227, 1228, 1229, 1230, 1231, 1232, 1233, 1234, 1255, 1256, 1257, 1258, 1259, 1260, 1261, 1262, 1263, 1264, 1265, 1266, 1267, 1268] (by decide +kernel) (by decide +kernel)
set_option maxRecDepth 20000 in
theorem gL_law_X7_undo : GoodIn wsL_law (wsV RL 188 RX7 yX7_undo wsX7_undo) := goodIn_app (goodIn_of _ (by decide +kernel)) ggL_law_X7_undo
set_option maxRecDepth 20000 in
theorem ggL_law_X8_undo : GoodIn wsL_law wsX8_undo := goodIn_r _ [1181, 1173, 93, 92, 140, 141, 142, 5, 143, 95, 144, 508, 509, 510, 1235, 1236, 1237, 1238, 1239, 1240, 1241, 1242, 1243, 1244, 1245, 1246, 1247, 1248, 1249, 1250, 1251, 1252, 1253, 1254] (by decide +kernel) (by decide +kernel)
set_option maxRecDepth 20000 in
theorem gL_law_X8_undo : GoodIn wsL_law (wsV RL 191 RX8 yX8_undo wsX8_undo) := goodIn_app (goodIn_of _ (by decide +kernel)) ggL_law_X8_undo
set_option maxRecDepth 20000 in
theorem ggL_law_X7_tear : GoodIn wsL_law wsX7_tear := goodIn_r _ [1185, 18, 1222, 1223, 1224, 1225, 1226, 1227, 1228, 1229, 1230, 1231, 1232, 1233, 1234] (by decide +kernel) (by decide +kernel)
set_option maxRecDepth 20000 in
theorem gL_law_X7_tear : GoodIn wsL_law (wsV RL 192 RX7 yX7_tear wsX7_tear) := goodIn_app (goodIn_of _ (by decide +kernel)) ggL_law_X7_tear
set_option maxRecDepth 20000 in
theorem ggL_law_X8_tear : GoodIn wsL_law wsX8_tear := goodIn_r _ [1189, 1173, 1235, 1236, 1237, 1238, 1239, 1240, 1241, 1242, 1243, 1244, 1245, 1246, 1247, 1248, 1249, 1250, 1251, 1252, 1253, 1254] (by decide +kernel) (by decide +kernel)
set_option maxRecDepth 20000 in
theorem gL_law_X8_tear : GoodIn wsL_law (wsV RL 195 RX8 yX8_tear wsX8_tear) := goodIn_app (goodIn_of _ (by decide +kernel)) ggL_law_X8_tear
set_option maxRecDepth 20000 in
theorem ggL_law_X7_count : GoodIn wsL_law wsX7_count := goodIn_r _ [1193, 15, 415, 241, 421, 31, 856, 847, 435, 436, 437, 14, 438, 439, 171, 172, 173, 174, 175, 176, 177, 178, 53, 179, 180, 181, 182, 183, 184, 185, 1194, 1195, 1196, 1197, 49, 1198, 1199, 1200, 1201, 57, 119, 120, 121, 2, 122, 41, 123, 1222, 1223, 1224, 1225, 1226, 1227, 1228, 1229, 1230, 1231, 1232, 1233, 1234, 1255, 1256, 1257, 1258, 1259, 1260, 1261, 1262, 1263, 1264, 1265, 1266, 1267, 1268, 1276, 1277, 1278, 1279, 1280, 1281] (by decide +kernel) (by decide +kernel)
set_option maxRecDepth 20000 in
theorem gL_law_X7_count : GoodIn wsL_law (wsV RL 196 RX7 yX7_count wsX7_count) := goodIn_app (goodIn_of _ (by decide +kernel)) ggL_law_X7_count
set_option maxRecDepth 20000 in
theorem ggL_law_X8_count : GoodIn wsL_law wsX8_count := goodIn_r _ [1205, 92, 869, 455, 456, 457, 5, 458, 353, 354, 355, 356, 207, 208, 209, 210, 1206, 1207, 1208, 1209, 1210, 1211, 1212, 1213, 140, 141, 142, 143, 95, 144, 1235, 1236, 1237, 1238, 1239, 1240, 1241, 1242, 1243, 1244, 1245, 1246, 1247, 1248, 1249, 1250, 1251, 1252, 1253, 1254] (by decide +kernel) (by decide +kernel)
set_option maxRecDepth 20000 in
theorem gL_law_X8_count : GoodIn wsL_law (wsV RL 199 RX8 yX8_count wsX8_count) := goodIn_app (goodIn_of _ (by decide +kernel)) ggL_law_X8_count
set_option maxRecDepth 20000 in
theorem ggL_law_X7_status : GoodIn wsL_law wsX7_status := goodIn_r _ [1217, 41, 116, 117, 2, 118, 119, 120, 121, 122, 123, 1222, 1223, 1224, 1225, 1226, 1227, 1228, 1229, 1230, 1231, 1232, 1233, 1234] (by decide +kernel) (by decide +kernel)
set_option maxRecDepth 20000 in
theorem gL_law_X7_status : GoodIn wsL_law (wsV RL 200 RX7 yX7_status wsX7_status) := goodIn_app (goodIn_of _ (by decide +kernel)) ggL_law_X7_status
set_option maxRecDepth 20000 in
theorem ggL_law_X8_status : GoodIn wsL_law wsX8_status := goodIn_r _ [1221, 223, 256, 95, 137, 138, 5, 139, 140, 141, 142, 143, 144, 1235, 1236, 1237, 1238, 1239, 1240, 1241, 1242, 1243, 1244, 1245, 1246, 1247, 1248, 1249, 1250, 1251, 1252, 1253, 1254] (by decide +kernel) (by decide +kernel)
set_option maxRecDepth 20000 in
theorem gL_law_X8_status : GoodIn wsL_law (wsV RL 203 RX8 yX8_status wsX8_status) := goodIn_app (goodIn_of _ (by decide +kernel)) ggL_law_X8_status
