set_option maxRecDepth 20000
theorem llr_35 : ∀ w ∈ wsL_law0_r35, w ∈ lw_tbl := fun w h => (goodIn_p wsL_law0_r35 [1338, 1346, 1350, 1354, 1401, 1408, 1412] (by decide +kernel) (by decide +kernel) w h).1
theorem llr_36 : ∀ w ∈ wsL_law0_r36, w ∈ lw_tbl := fun w h => (goodIn_p wsL_law0_r36 [1416, 1420, 1424, 1428, 1432] (by decide +kernel) (by decide +kernel) w h).1
theorem llr_37 : ∀ w ∈ wsL_law0_r37, w ∈ lw_tbl := fun w h => (goodIn_p wsL_law0_r37 [1436, 1440, 934, 1444] (by decide +kernel) (by decide +kernel) w h).1
theorem llr_38 : ∀ w ∈ wsL_law0_r38, w ∈ lw_tbl := fun w h => (goodIn_p wsL_law0_r38 [956, 960, 964, 1456, 1460, 1452] (by decide +kernel) (by decide +kernel) w h).1
theorem llr_39 : ∀ w ∈ wsL_law0_r39, w ∈ lw_tbl := fun w h => (goodIn_p wsL_law0_r39 [971, 975, 1464, 984] (by decide +kernel) (by decide +kernel) w h).1
theorem llr_40 : ∀ w ∈ wsL_law0_r40, w ∈ lw_tbl := fun w h => (goodIn_p wsL_law0_r40 [1448, 991, 995, 1468] (by decide +kernel) (by decide +kernel) w h).1
theorem llr_41 : ∀ w ∈ wsL_law0_r41, w ∈ lw_tbl := fun w h => (goodIn_p wsL_law0_r41 [1472, 1006, 1476, 1013, 1017] (by decide +kernel) (by decide +kernel) w h).1
theorem llr_42 : ∀ w ∈ wsL_law0_r42, w ∈ lw_tbl := fun w h => (goodIn_p wsL_law0_r42 [1021, 1480, 1029, 1033] (by decide +kernel) (by decide +kernel) w h).1
theorem llr_43 : ∀ w ∈ wsL_law0_r43, w ∈ lw_tbl := fun w h => (goodIn_p wsL_law0_r43 [1038, 1042, 1047, 1362, 1366, 1370] (by decide +kernel) (by decide +kernel) w h).1
theorem llr_44 : ∀ w ∈ wsL_law0_r44, w ∈ lw_tbl := fun w h => (goodIn_p wsL_law0_r44 [1054, 1059, 1374, 345, 390] (by decide +kernel) (by decide +kernel) w h).1
theorem llr_45 : ∀ w ∈ wsL_law0_r45, w ∈ lw_tbl := fun w h => (goodIn_p wsL_law0_r45 [1318, 1066, 1072, 1524] (by decide +kernel) (by decide +kernel) w h).1
theorem llr_46 : ∀ w ∈ wsL_law0_r46, w ∈ lw_tbl := fun w h => (goodIn_p wsL_law0_r46 [1079, 1083, 1087, 1528, 1095] (by decide +kernel) (by decide +kernel) w h).1
theorem llr_47 : ∀ w ∈ wsL_law0_r47, w ∈ lw_tbl := fun w h => (goodIn_p wsL_law0_r47 [1532, 1103, 1107, 1111, 1115] (by decide +kernel) (by decide +kernel) w h).1
theorem llr_48 : ∀ w ∈ wsL_law0_r48, w ∈ lw_tbl := fun w h => (goodIn_p wsL_law0_r48 [1118, 1536, 1540, 1544, 1125] (by decide +kernel) (by decide +kernel) w h).1
theorem llr_49 : ∀ w ∈ wsL_law0_r49, w ∈ lw_tbl := fun w h => (goodIn_p wsL_law0_r49 [1548, 465, 469, 1552, 1133] (by decide +kernel) (by decide +kernel) w h).1
theorem llr_50 : ∀ w ∈ wsL_law0_r50, w ∈ lw_tbl := fun w h => (goodIn_p wsL_law0_r50 [1556, 477, 489, 1560, 1564, 1568] (by decide +kernel) (by decide +kernel) w h).1
theorem llr_51 : ∀ w ∈ wsL_law0_r51, w ∈ lw_tbl := fun w h => (goodIn_p wsL_law0_r51 [1141, 1572, 1149, 1235] (by decide +kernel) (by decide +kernel) w h).1
