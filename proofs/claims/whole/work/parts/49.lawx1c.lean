set_option maxRecDepth 20000
theorem goodIn_td {big ws : List Cond} (n : Nat) (h1 : GoodIn big (ws.take n)) (h2 : GoodIn big (ws.drop n)) : GoodIn big ws := fun w h => by
  rw [← List.take_append_drop n ws] at h
  exact goodIn_app h1 h2 w h
theorem gqc_0 : GoodIn wsL_law ((wsX8_query).take 30) := goodIn_r _ [793, 180, 136, 794, 795, 5, 796, 402, 403, 404, 462, 463, 464, 465, 466, 139, 797, 798, 799, 800, 801, 802, 803, 804, 805, 806, 807, 808, 639, 640] (by decide +kernel) (by decide +kernel)
theorem gqc_1 : GoodIn wsL_law (((wsX8_query).drop 30).take 30) := goodIn_r _ [641, 642, 527, 528, 529, 530, 809, 810, 811, 812, 813, 814, 815, 816, 615, 616, 617, 618, 817, 818, 819, 820, 821, 822, 823, 824, 825, 826, 827, 828] (by decide +kernel) (by decide +kernel)
theorem gqc_2 : GoodIn wsL_law ((((wsX8_query).drop 30).drop 30).take 30) := goodIn_r _ [562, 563, 564, 565, 829, 830, 831, 832, 142, 623, 624, 625, 626, 833, 834, 835, 836, 837, 838, 839, 840, 841, 842, 843, 844, 845, 846, 847, 848, 849] (by decide +kernel) (by decide +kernel)
theorem gqc_3 : GoodIn wsL_law (((((wsX8_query).drop 30).drop 30).drop 30).take 30) := goodIn_r _ [850, 851, 852, 853, 854, 855, 856, 857, 858, 859, 860, 861, 862, 863, 864, 865, 866, 867, 868, 1231, 1232, 1233, 1234, 1235, 1236, 1237, 1238, 1239, 1240, 1241] (by decide +kernel) (by decide +kernel)
theorem gqc_4 : GoodIn wsL_law (((((wsX8_query).drop 30).drop 30).drop 30).drop 30) := goodIn_r _ [1242, 1243, 1244, 1245, 1246, 1247, 1248, 1249, 1250] (by decide +kernel) (by decide +kernel)
theorem ggL_law_X8_query : GoodIn wsL_law wsX8_query := goodIn_td 30 gqc_0 (goodIn_td 30 gqc_1 (goodIn_td 30 gqc_2 (goodIn_td 30 gqc_3 (gqc_4))))
theorem gL_law_X8_query : GoodIn wsL_law (wsV RL 143 RX8 yX8_query wsX8_query) := goodIn_app (goodIn_of _ (by decide +kernel)) ggL_law_X8_query
