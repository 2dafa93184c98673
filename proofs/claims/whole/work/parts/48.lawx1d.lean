set_option maxRecDepth 20000 in
theorem ggL_law_L_answer : GoodIn wsL_law wsL_answer := goodIn_ca (goodIn_ca (goodIn_r _ [871, 188, 872, 873, 874, 875, 2, 876, 877, 878, 32, 665, 879, 194, 195, 196, 197, 198, 789, 742, 743, 25, 744, 59, 1222, 1223, 1224, 1225, 1226, 1227, 1228, 1229, 1230, 1260, 1261, 1262, 1263, 1264, 1265, 1266, 1267, 1258, 1259] (by decide +kernel) (by decide +kernel)) (goodIn_sub (fun _ h => List.mem_append_right _ h) (by decide +kernel))) (goodIn_sub (fun _ h => List.mem_append_left _ (List.mem_append_left _ (List.mem_append_right _ h))) (by decide +kernel))
set_option maxRecDepth 20000 in
theorem gL_law_L_answer : GoodIn wsL_law (va_wsS RL 144 yL_answer wsL_answer) := goodIn_app (goodIn_of _ (by decide +kernel)) ggL_law_L_answer
