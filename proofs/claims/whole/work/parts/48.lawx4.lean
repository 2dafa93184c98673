set_option maxRecDepth 20000 in
theorem ggL_law_X8_crack : GoodIn wsL_law wsX8_crack := goodIn_r _ [1106, 136, 180, 402, 403, 5, 404, 462, 463, 464, 465, 466, 139, 829, 830, 831, 832, 142, 639, 640, 641, 642, 527, 528, 529, 530, 615, 616, 617, 618, 623, 624, 625, 626, 821, 822, 823, 824, 833, 834, 835, 1231, 1232, 1233, 1234, 1235, 1236, 1237, 1238, 1239, 1240, 1241, 1242, 1243, 1244, 1245, 1246, 1247, 1248, 1249, 1250] (by decide +kernel) (by decide +kernel)
set_option maxRecDepth 20000 in
theorem gL_law_X8_crack : GoodIn wsL_law (wsV RL 185 RX8 yX8_crack wsX8_crack) := goodIn_app (goodIn_of _ (by decide +kernel)) ggL_law_X8_crack
set_option maxRecDepth 20000 in
theorem ggL_law_L_evenCrack : GoodIn wsL_law wsL_evenCrack := goodIn_ca (goodIn_r _ [1109, 872, 1110, 1111, 1112, 2, 1113, 877, 878, 32, 484, 1114, 1115, 1116, 71, 1117, 100, 327, 328, 329, 330, 98, 323, 324, 325, 326, 709, 591, 592, 593, 319, 320, 321, 322, 96, 99, 1118, 1119, 1120, 1121, 603, 604, 605, 606, 101, 331, 332, 333, 334, 94, 311, 312, 313, 67, 314, 86, 708, 586, 587, 588, 95, 1122, 1123, 1124, 1125, 1126, 1127, 42, 1128, 1222, 1223, 1224, 1225, 1226, 1227, 1228, 1229, 1230, 1260, 1261, 1262, 1263, 1264, 1265, 1266, 1267, 1272, 1273, 1274, 1275, 1276, 1277, 1278, 1279, 1268, 1269, 1270, 1271] (by decide +kernel) (by decide +kernel)) (goodIn_sub (fun _ h => List.mem_append_right _ h) (by decide +kernel))
set_option maxRecDepth 20000 in
theorem gL_law_L_evenCrack : GoodIn wsL_law (va_wsS RL 186 yL_evenCrack wsL_evenCrack) := goodIn_app (goodIn_of _ (by decide +kernel)) ggL_law_L_evenCrack
set_option maxRecDepth 20000 in
theorem ggL_law_X8_evenCrack : GoodIn wsL_law wsX8_evenCrack := goodIn_r _ [1132, 180, 1133, 1134, 1135, 5, 1136, 136, 527, 528, 529, 530, 615, 616, 617, 618, 623, 624, 625, 626, 1137, 1138, 1139, 1140, 1231, 1232, 1233, 1234, 1235, 1236, 1237, 1238, 1239, 1240, 1241, 1242, 1243, 1244, 1245, 1246, 1247, 1248, 1249, 1250] (by decide +kernel) (by decide +kernel)
set_option maxRecDepth 20000 in
theorem gL_law_X8_evenCrack : GoodIn wsL_law (wsV RL 189 RX8 yX8_evenCrack wsX8_evenCrack) := goodIn_app (goodIn_of _ (by decide +kernel)) ggL_law_X8_evenCrack
set_option maxRecDepth 20000 in
theorem ggL_law_L_drop : GoodIn wsL_law wsL_drop := goodIn_ca (goodIn_ca (goodIn_r _ [1143, 534, 159, 1144, 1145, 1146, 2, 1147, 164, 165, 32, 484, 487, 539, 540, 541, 542, 543, 361, 362, 363, 364, 33, 31, 365, 366, 367, 368, 369, 370, 371, 29, 372, 68, 72, 74, 78, 79, 80, 81, 82, 373, 374, 375, 67, 376, 86, 87, 88, 89, 377, 378, 379, 290, 42, 291, 380, 308, 309, 310, 381, 382, 383, 71, 384, 94, 95, 96, 97, 98, 99, 100, 385, 386, 387, 25, 388, 59, 60, 389, 390, 391, 77, 392, 105, 106, 1148, 780, 781, 782, 323, 324, 325, 326, 720, 721, 722, 723, 344, 345, 41, 43, 590, 591, 592, 593, 319, 320, 321, 322, 1222, 1223, 1224, 1225, 1226, 1227, 1228, 1229, 1230, 1260, 1261, 1262, 1263, 1264, 1265, 1266, 1267, 1272, 1273, 1274, 1275, 1276, 1277, 1278, 1279, 1268, 1269, 1270, 1271, 1258, 1259, 1280, 1281] (by decide +kernel) (by decide +kernel)) (goodIn_sub (fun _ h => List.mem_append_left _ (List.mem_append_left _ (List.mem_append_left _ (List.mem_append_right _ h)))) (by decide +kernel))) (goodIn_sub (fun _ h => List.mem_append_left _ (List.mem_append_right _ h)) (by decide +kernel))
set_option maxRecDepth 20000 in
theorem gL_law_L_drop : GoodIn wsL_law (va_wsS RL 190 yL_drop wsL_drop) := goodIn_app (goodIn_of _ (by decide +kernel)) ggL_law_L_drop
set_option maxRecDepth 20000 in
theorem ggL_law_X8_drop : GoodIn wsL_law wsX8_drop := goodIn_r _ [1152, 180, 611, 612, 613, 5, 614, 136, 402, 403, 404, 462, 463, 464, 465, 466, 139, 861, 862, 863, 864, 527, 528, 529, 530, 821, 822, 823, 824, 1231, 1232, 1233, 1234, 1235, 1236, 1237, 1238, 1239, 1240, 1241, 1242, 1243, 1244, 1245, 1246, 1247, 1248, 1249, 1250] (by decide +kernel) (by decide +kernel)
set_option maxRecDepth 20000 in
theorem gL_law_X8_drop : GoodIn wsL_law (wsV RL 192 RX8 yX8_drop wsX8_drop) := goodIn_app (goodIn_of _ (by decide +kernel)) ggL_law_X8_drop
set_option maxRecDepth 20000 in
theorem ggL_law_X7_hottest : GoodIn wsL_law wsX7_hottest := goodIn_r _ [1156, 32, 484, 1157, 1158, 1159, 71, 1160, 100, 778, 595, 596, 597, 97, 323, 324, 325, 326, 1222, 1223, 1224, 1225, 1226, 1227, 1228, 1229, 1230, 1260, 1261, 1262, 1263, 1264, 1265, 1266, 1267, 1272, 1273, 1274, 1275, 1276, 1277, 1278, 1279] (by decide +kernel) (by decide +kernel)
set_option maxRecDepth 20000 in
theorem gL_law_X7_hottest : GoodIn wsL_law (wsV RL 193 RX7 yX7_hottest wsX7_hottest) := goodIn_app (goodIn_of _ (by decide +kernel)) ggL_law_X7_hottest
set_option maxRecDepth 20000 in
theorem ggL_law_X8_hottest : GoodIn wsL_law wsX8_hottest := goodIn_r _ [1164, 180, 136, 527, 528, 529, 5, 530, 1231, 1232, 1233, 1234, 1235, 1236, 1237, 1238, 1239, 1240, 1241, 1242, 1243, 1244, 1245, 1246, 1247, 1248, 1249, 1250] (by decide +kernel) (by decide +kernel)
set_option maxRecDepth 20000 in
theorem gL_law_X8_hottest : GoodIn wsL_law (wsV RL 196 RX8 yX8_hottest wsX8_hottest) := goodIn_app (goodIn_of _ (by decide +kernel)) ggL_law_X8_hottest
set_option maxRecDepth 20000 in
theorem ggL_law_L_coldestPair : GoodIn wsL_law wsL_coldestPair := goodIn_ca (goodIn_r _ [1167, 872, 1168, 1169, 1170, 2, 1171, 877, 878, 32, 484, 1172, 771, 772, 71, 773, 100, 774, 775, 776, 777, 778, 595, 596, 597, 97, 323, 324, 325, 326, 1222, 1223, 1224, 1225, 1226, 1227, 1228, 1229, 1230, 1260, 1261, 1262, 1263, 1264, 1265, 1266, 1267, 1272, 1273, 1274, 1275, 1276, 1277, 1278, 1279] (by decide +kernel) (by decide +kernel)) (goodIn_sub (fun _ h => List.mem_append_right _ h) (by decide +kernel))
set_option maxRecDepth 20000 in
theorem gL_law_L_coldestPair : GoodIn wsL_law (va_wsS RL 197 yL_coldestPair wsL_coldestPair) := goodIn_app (goodIn_of _ (by decide +kernel)) ggL_law_L_coldestPair
set_option maxRecDepth 20000 in
theorem ggL_law_X8_coldestPair : GoodIn wsL_law wsX8_coldestPair := goodIn_r _ [1176, 136, 180, 857, 858, 859, 5, 860, 527, 528, 529, 530, 1231, 1232, 1233, 1234, 1235, 1236, 1237, 1238, 1239, 1240, 1241, 1242, 1243, 1244, 1245, 1246, 1247, 1248, 1249, 1250] (by decide +kernel) (by decide +kernel)
set_option maxRecDepth 20000 in
theorem gL_law_X8_coldestPair : GoodIn wsL_law (wsV RL 199 RX8 yX8_coldestPair wsX8_coldestPair) := goodIn_app (goodIn_of _ (by decide +kernel)) ggL_law_X8_coldestPair
set_option maxRecDepth 20000 in
theorem ggL_law_X7_writePieces : GoodIn wsL_law wsX7_writePieces := goodIn_r _ [1180, 32, 484, 22, 166, 487, 1181, 172, 173, 16, 174, 39, 45, 585, 586, 587, 71, 588, 95, 323, 324, 325, 326, 100, 1182, 1183, 1184, 1185, 171, 590, 591, 592, 593, 319, 320, 321, 322, 96, 99, 598, 328, 329, 330, 98, 594, 595, 596, 597, 97, 1222, 1223, 1224, 1225, 1226, 1227, 1228, 1229, 1230, 1260, 1261, 1262, 1263, 1264, 1265, 1266, 1267, 1251, 1252, 1272, 1273, 1274, 1275, 1276, 1277, 1278, 1279] (by decide +kernel) (by decide +kernel)
set_option maxRecDepth 20000 in
theorem gL_law_X7_writePieces : GoodIn wsL_law (wsV RL 200 RX7 yX7_writePieces wsX7_writePieces) := goodIn_app (goodIn_of _ (by decide +kernel)) ggL_law_X7_writePieces
set_option maxRecDepth 20000 in
theorem ggL_law_X8_writePieces : GoodIn wsL_law wsX8_writePieces := goodIn_r _ [1189, 180, 1190, 136, 1191, 1192, 1193, 5, 1194, 143, 527, 528, 529, 530, 1195, 1196, 1197, 1198, 1231, 1232, 1233, 1234, 1235, 1236, 1237, 1238, 1239, 1240, 1241, 1242, 1243, 1244, 1245, 1246, 1247, 1248, 1249, 1250] (by decide +kernel) (by decide +kernel)
set_option maxRecDepth 20000 in
theorem gL_law_X8_writePieces : GoodIn wsL_law (wsV RL 203 RX8 yX8_writePieces wsX8_writePieces) := goodIn_app (goodIn_of _ (by decide +kernel)) ggL_law_X8_writePieces
set_option maxRecDepth 20000 in
theorem ggL_law_L_writtenByte : GoodIn wsL_law wsL_writtenByte := goodIn_ca (goodIn_r _ [1201, 534, 1202, 1203, 1204, 2, 1205, 22, 166, 539, 540, 541, 542, 543, 1206, 211, 212, 16, 213, 39, 45, 1222, 1223, 1224, 1225, 1226, 1227, 1228, 1229, 1230, 1251, 1252] (by decide +kernel) (by decide +kernel)) (goodIn_sub (fun _ h => List.mem_append_left _ (List.mem_append_right _ h)) (by decide +kernel))
set_option maxRecDepth 20000 in
theorem gL_law_L_writtenByte : GoodIn wsL_law (va_wsS RL 204 yL_writtenByte wsL_writtenByte) := goodIn_app (goodIn_of _ (by decide +kernel)) ggL_law_L_writtenByte
set_option maxRecDepth 20000 in
theorem ggL_law_X8_writtenByte : GoodIn wsL_law wsX8_writtenByte := goodIn_r _ [1210, 1190, 180, 143, 402, 403, 5, 404, 1231, 1232, 1233, 1234, 1235, 1236, 1237, 1238, 1239, 1240, 1241, 1242, 1243, 1244, 1245, 1246, 1247, 1248, 1249, 1250] (by decide +kernel) (by decide +kernel)
set_option maxRecDepth 20000 in
theorem gL_law_X8_writtenByte : GoodIn wsL_law (wsV RL 206 RX8 yX8_writtenByte wsX8_writtenByte) := goodIn_app (goodIn_of _ (by decide +kernel)) ggL_law_X8_writtenByte
set_option maxRecDepth 20000 in
theorem ggL_law_L_undo : GoodIn wsL_law wsL_undo := goodIn_ca (goodIn_r _ [1213, 159, 1214, 1215, 1216, 2, 1217, 164, 165, 33, 31, 32, 1222, 1223, 1224, 1225, 1226, 1227, 1228, 1229, 1230] (by decide +kernel) (by decide +kernel)) (goodIn_sub (fun _ h => List.mem_append_left _ (List.mem_append_left _ (List.mem_append_left _ (List.mem_append_right _ h)))) (by decide +kernel))
set_option maxRecDepth 20000 in
theorem gL_law_L_undo : GoodIn wsL_law (va_wsS RL 207 yL_undo wsL_undo) := goodIn_app (goodIn_of _ (by decide +kernel)) ggL_law_L_undo
set_option maxRecDepth 20000 in
theorem ggL_law_X8_undo : GoodIn wsL_law wsX8_undo := goodIn_r _ [1221, 466, 180, 136, 139, 1231, 1232, 1233, 1234, 1235, 1236, 1237, 1238, 1239, 1240, 1241, 1242, 1243, 1244, 1245, 1246, 1247, 1248, 1249, 1250] (by decide +kernel) (by decide +kernel)
set_option maxRecDepth 20000 in
theorem gL_law_X8_undo : GoodIn wsL_law (wsV RL 209 RX8 yX8_undo wsX8_undo) := goodIn_app (goodIn_of _ (by decide +kernel)) ggL_law_X8_undo
