set_option maxRecDepth 20000
theorem llr_18 : ∀ w ∈ wsL_law0_r18, w ∈ lw_tbl := fun w h => (goodIn_p wsL_law0_r18 [1250, 1254, 1257, 1260, 1265, 1270] (by decide +kernel) (by decide +kernel) w h).1
theorem llr_19 : ∀ w ∈ wsL_law0_r19, w ∈ lw_tbl := fun w h => (goodIn_p wsL_law0_r19 [1276, 1280, 1284, 1288, 1292, 1297] (by decide +kernel) (by decide +kernel) w h).1
theorem llr_20 : ∀ w ∈ wsL_law0_r20, w ∈ lw_tbl := fun w h => (goodIn_p wsL_law0_r20 [1300, 1303, 1310, 341, 1314] (by decide +kernel) (by decide +kernel) w h).1
theorem llr_21 : ∀ w ∈ wsL_law0_r21, w ∈ lw_tbl := fun w h => (goodIn_p wsL_law0_r21 [728, 732, 736, 416] (by decide +kernel) (by decide +kernel) w h).1
theorem llr_22 : ∀ w ∈ wsL_law0_r22, w ∈ lw_tbl := fun w h => (goodIn_p wsL_law0_r22 [741, 745, 1484, 1488, 1382, 1492] (by decide +kernel) (by decide +kernel) w h).1
theorem llr_23 : ∀ w ∈ wsL_law0_r23, w ∈ lw_tbl := fun w h => (goodIn_p wsL_law0_r23 [1330, 753, 756, 776] (by decide +kernel) (by decide +kernel) w h).1
theorem llr_24 : ∀ w ∈ wsL_law0_r24, w ∈ lw_tbl := fun w h => (goodIn_p wsL_law0_r24 [461, 1496, 1378, 1358, 785] (by decide +kernel) (by decide +kernel) w h).1
theorem llr_25 : ∀ w ∈ wsL_law0_r25, w ∈ lw_tbl := fun w h => (goodIn_p wsL_law0_r25 [1500, 793, 485, 494, 473] (by decide +kernel) (by decide +kernel) w h).1
theorem llr_26 : ∀ w ∈ wsL_law0_r26, w ∈ lw_tbl := fun w h => (goodIn_p wsL_law0_r26 [798, 802, 1504, 1508, 1342, 1512] (by decide +kernel) (by decide +kernel) w h).1
theorem llr_27 : ∀ w ∈ wsL_law0_r27, w ∈ lw_tbl := fun w h => (goodIn_p wsL_law0_r27 [1405, 809, 1516, 1326] (by decide +kernel) (by decide +kernel) w h).1
theorem llr_28 : ∀ w ∈ wsL_law0_r28, w ∈ lw_tbl := fun w h => (goodIn_p wsL_law0_r28 [817, 821, 1520, 828, 831] (by decide +kernel) (by decide +kernel) w h).1
theorem llr_29 : ∀ w ∈ wsL_law0_r29, w ∈ lw_tbl := fun w h => (goodIn_p wsL_law0_r29 [835, 394, 399, 407, 453] (by decide +kernel) (by decide +kernel) w h).1
theorem llr_30 : ∀ w ∈ wsL_law0_r30, w ∈ lw_tbl := fun w h => (goodIn_p wsL_law0_r30 [457, 839, 843, 848, 852, 856] (by decide +kernel) (by decide +kernel) w h).1
theorem llr_31 : ∀ w ∈ wsL_law0_r31, w ∈ lw_tbl := fun w h => (goodIn_p wsL_law0_r31 [860, 864, 868, 875] (by decide +kernel) (by decide +kernel) w h).1
theorem llr_32 : ∀ w ∈ wsL_law0_r32, w ∈ lw_tbl := fun w h => (goodIn_p wsL_law0_r32 [881, 885, 889, 898, 902] (by decide +kernel) (by decide +kernel) w h).1
theorem llr_33 : ∀ w ∈ wsL_law0_r33, w ∈ lw_tbl := fun w h => (goodIn_p wsL_law0_r33 [906, 911, 915, 919, 923] (by decide +kernel) (by decide +kernel) w h).1
theorem llr_34 : ∀ w ∈ wsL_law0_r34, w ∈ lw_tbl := fun w h => (goodIn_p wsL_law0_r34 [1386, 1389, 1393, 1397, 1322, 1334] (by decide +kernel) (by decide +kernel) w h).1
