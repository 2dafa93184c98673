theorem dX8_readsPieces_1 : decode cX8_readsPieces 1 = .ok (.istore_n 3, 1) := by decide +kernel
theorem dX8_readsPieces_2 : decode cX8_readsPieces 2 = .ok (.iload_n 3, 1) := by decide +kernel
theorem dX8_readsPieces_3 : decode cX8_readsPieces 3 = .ok (.aload_n 0, 1) := by decide +kernel
theorem dX8_readsPieces_4 : decode cX8_readsPieces 4 = .ok (.getfield 7, 3) := by decide +kernel
theorem dX8_readsPieces_7 : decode cX8_readsPieces 7 = .ok (.iconst 3, 1) := by decide +kernel
theorem dX8_readsPieces_8 : decode cX8_readsPieces 8 = .ok (.iaload, 1) := by decide +kernel
theorem dX8_readsPieces_9 : decode cX8_readsPieces 9 = .ok (.if_icmp .ge 78, 3) := by decide +kernel
theorem dX8_readsPieces_12 : decode cX8_readsPieces 12 = .ok (.aload_n 0, 1) := by decide +kernel
theorem dX8_readsPieces_13 : decode cX8_readsPieces 13 = .ok (.iload_n 3, 1) := by decide +kernel
theorem dX8_readsPieces_14 : decode cX8_readsPieces 14 = .ok (.iload_n 1, 1) := by decide +kernel
theorem dX8_readsPieces_15 : decode cX8_readsPieces 15 = .ok (.iload_n 2, 1) := by decide +kernel
theorem dX8_readsPieces_16 : decode cX8_readsPieces 16 = .ok (.invokevirtual 201, 3) := by decide +kernel
theorem dX8_readsPieces_19 : decode cX8_readsPieces 19 = .ok (.ifCond .ne 6, 3) := by decide +kernel
theorem dX8_readsPieces_22 : decode cX8_readsPieces 22 = .ok (.goto 59, 3) := by decide +kernel
theorem dX8_readsPieces_25 : decode cX8_readsPieces 25 = .ok (.aload_n 0, 1) := by decide +kernel
theorem dX8_readsPieces_26 : decode cX8_readsPieces 26 = .ok (.iload_n 3, 1) := by decide +kernel
theorem dX8_readsPieces_27 : decode cX8_readsPieces 27 = .ok (.iconst 2, 1) := by decide +kernel
theorem dX8_readsPieces_28 : decode cX8_readsPieces 28 = .ok (.aload_n 0, 1) := by decide +kernel
theorem dX8_readsPieces_29 : decode cX8_readsPieces 29 = .ok (.iload_n 3, 1) := by decide +kernel
theorem dX8_readsPieces_30 : decode cX8_readsPieces 30 = .ok (.iconst 2, 1) := by decide +kernel
theorem dX8_readsPieces_31 : decode cX8_readsPieces 31 = .ok (.invokevirtual 150, 3) := by decide +kernel
theorem dX8_readsPieces_34 : decode cX8_readsPieces 34 = .ok (.iconst 1, 1) := by decide +kernel
theorem dX8_readsPieces_35 : decode cX8_readsPieces 35 = .ok (.iadd, 1) := by decide +kernel
theorem dX8_readsPieces_36 : decode cX8_readsPieces 36 = .ok (.invokevirtual 162, 3) := by decide +kernel
theorem dX8_readsPieces_39 : decode cX8_readsPieces 39 = .ok (.aload_n 0, 1) := by decide +kernel
theorem dX8_readsPieces_40 : decode cX8_readsPieces 40 = .ok (.getfield 7, 3) := by decide +kernel
theorem dX8_readsPieces_43 : decode cX8_readsPieces 43 = .ok (.bipush 16, 2) := by decide +kernel
theorem dX8_readsPieces_45 : decode cX8_readsPieces 45 = .ok (.dup2, 1) := by decide +kernel
theorem dX8_readsPieces_46 : decode cX8_readsPieces 46 = .ok (.iaload, 1) := by decide +kernel
theorem dX8_readsPieces_47 : decode cX8_readsPieces 47 = .ok (.iconst 1, 1) := by decide +kernel
theorem dX8_readsPieces_48 : decode cX8_readsPieces 48 = .ok (.iadd, 1) := by decide +kernel
theorem dX8_readsPieces_49 : decode cX8_readsPieces 49 = .ok (.iastore, 1) := by decide +kernel
theorem dX8_readsPieces_50 : decode cX8_readsPieces 50 = .ok (.aload_n 0, 1) := by decide +kernel
theorem dX8_readsPieces_51 : decode cX8_readsPieces 51 = .ok (.iload_n 3, 1) := by decide +kernel
theorem dX8_readsPieces_52 : decode cX8_readsPieces 52 = .ok (.invokevirtual 156, 3) := by decide +kernel
theorem dX8_readsPieces_55 : decode cX8_readsPieces 55 = .ok (.istore 4, 2) := by decide +kernel
theorem dX8_readsPieces_57 : decode cX8_readsPieces 57 = .ok (.iload 4, 2) := by decide +kernel
theorem dX8_readsPieces_59 : decode cX8_readsPieces 59 = .ok (.aload_n 0, 1) := by decide +kernel
theorem dX8_readsPieces_60 : decode cX8_readsPieces 60 = .ok (.iload_n 3, 1) := by decide +kernel
theorem dX8_readsPieces_61 : decode cX8_readsPieces 61 = .ok (.iconst 1, 1) := by decide +kernel
theorem dX8_readsPieces_62 : decode cX8_readsPieces 62 = .ok (.iadd, 1) := by decide +kernel
theorem dX8_readsPieces_63 : decode cX8_readsPieces 63 = .ok (.invokevirtual 156, 3) := by decide +kernel
theorem dX8_readsPieces_66 : decode cX8_readsPieces 66 = .ok (.if_icmp .ge 15, 3) := by decide +kernel
theorem dX8_readsPieces_69 : decode cX8_readsPieces 69 = .ok (.aload_n 0, 1) := by decide +kernel
theorem dX8_readsPieces_70 : decode cX8_readsPieces 70 = .ok (.iload 4, 2) := by decide +kernel
theorem dX8_readsPieces_72 : decode cX8_readsPieces 72 = .ok (.invokevirtual 204, 3) := by decide +kernel
theorem dX8_readsPieces_75 : decode cX8_readsPieces 75 = .ok (.iinc 4 1, 3) := by decide +kernel
theorem dX8_readsPieces_78 : decode cX8_readsPieces 78 = .ok (.goto (-21), 3) := by decide +kernel
theorem dX8_readsPieces_81 : decode cX8_readsPieces 81 = .ok (.iinc 3 1, 3) := by decide +kernel
theorem dX8_readsPieces_84 : decode cX8_readsPieces 84 = .ok (.goto (-82), 3) := by decide +kernel
theorem dX8_readsPieces_87 : decode cX8_readsPieces 87 = .ok (.aload_n 0, 1) := by decide +kernel
theorem dX8_readsPieces_88 : decode cX8_readsPieces 88 = .ok (.getfield 7, 3) := by decide +kernel
theorem dX8_readsPieces_91 : decode cX8_readsPieces 91 = .ok (.bipush 10, 2) := by decide +kernel
theorem dX8_readsPieces_93 : decode cX8_readsPieces 93 = .ok (.iaload, 1) := by decide +kernel
theorem dX8_readsPieces_94 : decode cX8_readsPieces 94 = .ok (.ireturn, 1) := by decide +kernel
set_option maxRecDepth 20000 in
theorem ggX8_sortsHot_X8_of : GoodIn wsX8_sortsHot wsX8_of := goodIn_r _ [7, 1, 35, 36, 37, 38, 39, 40, 41, 42, 43, 44, 45, 46, 47, 48, 49, 50, 51, 52, 53, 54] (by decide +kernel) (by decide +kernel)
set_option maxRecDepth 20000 in
theorem gX8_sortsHot_X8_of : GoodIn wsX8_sortsHot (wsV RX8 150 RX8 yX8_of wsX8_of) := goodIn_app (goodIn_of _ (by decide +kernel)) ggX8_sortsHot_X8_of
set_option maxRecDepth 20000 in
theorem ggX8_sortsHot_X8_isRead : GoodIn wsX8_sortsHot wsX8_isRead := goodIn_r _ [11, 3, 4, 5, 6, 7, 1, 12, 13, 14, 35, 36, 37, 38, 39, 40, 41, 42, 43, 44, 45, 46, 47, 48, 49, 50, 51, 52, 53, 54] (by decide +kernel) (by decide +kernel)
set_option maxRecDepth 20000 in
theorem gX8_sortsHot_X8_isRead : GoodIn wsX8_sortsHot (wsV RX8 201 RX8 yX8_isRead wsX8_isRead) := goodIn_app (goodIn_of _ (by decide +kernel)) ggX8_sortsHot_X8_isRead
set_option maxRecDepth 20000 in
theorem ggX8_sortsHot_X8_isIn : GoodIn wsX8_sortsHot wsX8_isIn := goodIn_r _ [14] (by decide +kernel) (by decide +kernel)
set_option maxRecDepth 20000 in
theorem gX8_sortsHot_X8_isIn : GoodIn wsX8_sortsHot (va_wsS RX8 57 yX8_isIn wsX8_isIn) := goodIn_app (goodIn_of _ (by decide +kernel)) ggX8_sortsHot_X8_isIn
set_option maxRecDepth 20000 in
theorem ggX8_sortsHot_X8_sorts : GoodIn wsX8_sortsHot wsX8_sorts := goodIn_r _ [18, 19, 1, 20, 21, 22, 6, 23, 3, 4, 5, 7, 24, 25, 26, 27, 28, 29, 30, 31, 35, 36, 37, 38, 39, 40, 41, 42, 43, 44, 45, 46, 47, 48, 49, 50, 51, 52, 53, 54] (by decide +kernel) (by decide +kernel)
set_option maxRecDepth 20000 in
theorem gX8_sortsHot_X8_sorts : GoodIn wsX8_sortsHot (wsV RX8 207 RX8 yX8_sorts wsX8_sorts) := goodIn_app (goodIn_of _ (by decide +kernel)) ggX8_sortsHot_X8_sorts
set_option maxRecDepth 20000 in
theorem ggX8_sortsHot_X8_logOf : GoodIn wsX8_sortsHot wsX8_logOf := goodIn_r _ [34] (by decide +kernel) (by decide +kernel)
set_option maxRecDepth 20000 in
theorem gX8_sortsHot_X8_logOf : GoodIn wsX8_sortsHot (va_wsS RX8 166 yX8_logOf wsX8_logOf) := goodIn_app (goodIn_of _ (by decide +kernel)) ggX8_sortsHot_X8_logOf
theorem dX8_sortsHot_0 : decode cX8_sortsHot 0 = .ok (.iconst 0, 1) := by decide +kernel
theorem dX8_sortsHot_1 : decode cX8_sortsHot 1 = .ok (.istore_n 3, 1) := by decide +kernel
theorem dX8_sortsHot_2 : decode cX8_sortsHot 2 = .ok (.iconst 0, 1) := by decide +kernel
theorem dX8_sortsHot_3 : decode cX8_sortsHot 3 = .ok (.istore 4, 2) := by decide +kernel
theorem dX8_sortsHot_5 : decode cX8_sortsHot 5 = .ok (.iload 4, 2) := by decide +kernel
theorem dX8_sortsHot_7 : decode cX8_sortsHot 7 = .ok (.aload_n 0, 1) := by decide +kernel
theorem dX8_sortsHot_8 : decode cX8_sortsHot 8 = .ok (.getfield 7, 3) := by decide +kernel
theorem dX8_sortsHot_11 : decode cX8_sortsHot 11 = .ok (.iconst 3, 1) := by decide +kernel
theorem dX8_sortsHot_12 : decode cX8_sortsHot 12 = .ok (.iaload, 1) := by decide +kernel
theorem dX8_sortsHot_13 : decode cX8_sortsHot 13 = .ok (.if_icmp .ge 106, 3) := by decide +kernel
theorem dX8_sortsHot_16 : decode cX8_sortsHot 16 = .ok (.aload_n 0, 1) := by decide +kernel
theorem dX8_sortsHot_17 : decode cX8_sortsHot 17 = .ok (.iload 4, 2) := by decide +kernel
theorem dX8_sortsHot_19 : decode cX8_sortsHot 19 = .ok (.iconst 1, 1) := by decide +kernel
theorem dX8_sortsHot_20 : decode cX8_sortsHot 20 = .ok (.invokevirtual 150, 3) := by decide +kernel
theorem dX8_sortsHot_23 : decode cX8_sortsHot 23 = .ok (.istore 5, 2) := by decide +kernel
theorem dX8_sortsHot_25 : decode cX8_sortsHot 25 = .ok (.aload_n 0, 1) := by decide +kernel
theorem dX8_sortsHot_26 : decode cX8_sortsHot 26 = .ok (.iload 4, 2) := by decide +kernel
theorem dX8_sortsHot_28 : decode cX8_sortsHot 28 = .ok (.iload_n 1, 1) := by decide +kernel
theorem dX8_sortsHot_29 : decode cX8_sortsHot 29 = .ok (.iload_n 2, 1) := by decide +kernel
theorem dX8_sortsHot_30 : decode cX8_sortsHot 30 = .ok (.invokevirtual 201, 3) := by decide +kernel
theorem dX8_sortsHot_33 : decode cX8_sortsHot 33 = .ok (.ifCond .eq 80, 3) := by decide +kernel
theorem dX8_sortsHot_36 : decode cX8_sortsHot 36 = .ok (.aload_n 0, 1) := by decide +kernel
theorem dX8_sortsHot_37 : decode cX8_sortsHot 37 = .ok (.iload 4, 2) := by decide +kernel
theorem dX8_sortsHot_39 : decode cX8_sortsHot 39 = .ok (.iconst 3, 1) := by decide +kernel
theorem dX8_sortsHot_40 : decode cX8_sortsHot 40 = .ok (.invokevirtual 150, 3) := by decide +kernel
theorem dX8_sortsHot_43 : decode cX8_sortsHot 43 = .ok (.iconst 1, 1) := by decide +kernel
theorem dX8_sortsHot_44 : decode cX8_sortsHot 44 = .ok (.if_icmp .eq 69, 3) := by decide +kernel
theorem dX8_sortsHot_47 : decode cX8_sortsHot 47 = .ok (.aload_n 0, 1) := by decide +kernel
theorem dX8_sortsHot_48 : decode cX8_sortsHot 48 = .ok (.iload 4, 2) := by decide +kernel
theorem dX8_sortsHot_50 : decode cX8_sortsHot 50 = .ok (.iconst 2, 1) := by decide +kernel
theorem dX8_sortsHot_51 : decode cX8_sortsHot 51 = .ok (.invokevirtual 150, 3) := by decide +kernel
theorem dX8_sortsHot_54 : decode cX8_sortsHot 54 = .ok (.aload_n 0, 1) := by decide +kernel
theorem dX8_sortsHot_55 : decode cX8_sortsHot 55 = .ok (.getfield 7, 3) := by decide +kernel
theorem dX8_sortsHot_58 : decode cX8_sortsHot 58 = .ok (.iconst 4, 1) := by decide +kernel
theorem dX8_sortsHot_59 : decode cX8_sortsHot 59 = .ok (.iaload, 1) := by decide +kernel
theorem dX8_sortsHot_60 : decode cX8_sortsHot 60 = .ok (.if_icmp .lt 53, 3) := by decide +kernel
theorem dX8_sortsHot_63 : decode cX8_sortsHot 63 = .ok (.iload 5, 2) := by decide +kernel
theorem dX8_sortsHot_65 : decode cX8_sortsHot 65 = .ok (.iconst 2, 1) := by decide +kernel
theorem dX8_sortsHot_66 : decode cX8_sortsHot 66 = .ok (.aload_n 0, 1) := by decide +kernel
theorem dX8_sortsHot_67 : decode cX8_sortsHot 67 = .ok (.getfield 7, 3) := by decide +kernel
theorem dX8_sortsHot_70 : decode cX8_sortsHot 70 = .ok (.iconst 5, 1) := by decide +kernel
theorem dX8_sortsHot_71 : decode cX8_sortsHot 71 = .ok (.iaload, 1) := by decide +kernel
theorem dX8_sortsHot_72 : decode cX8_sortsHot 72 = .ok (.invokestatic 57, 3) := by decide +kernel
theorem dX8_sortsHot_75 : decode cX8_sortsHot 75 = .ok (.ifCond .ne 6, 3) := by decide +kernel
theorem dX8_sortsHot_78 : decode cX8_sortsHot 78 = .ok (.goto 35, 3) := by decide +kernel
theorem dX8_sortsHot_81 : decode cX8_sortsHot 81 = .ok (.aload_n 0, 1) := by decide +kernel
theorem dX8_sortsHot_82 : decode cX8_sortsHot 82 = .ok (.aload_n 0, 1) := by decide +kernel
theorem dX8_sortsHot_83 : decode cX8_sortsHot 83 = .ok (.iload 4, 2) := by decide +kernel
theorem dX8_sortsHot_85 : decode cX8_sortsHot 85 = .ok (.invokevirtual 207, 3) := by decide +kernel
theorem dX8_sortsHot_88 : decode cX8_sortsHot 88 = .ok (.putfield 210, 3) := by decide +kernel
theorem dX8_sortsHot_91 : decode cX8_sortsHot 91 = .ok (.aload_n 0, 1) := by decide +kernel
theorem dX8_sortsHot_92 : decode cX8_sortsHot 92 = .ok (.getfield 7, 3) := by decide +kernel
theorem dX8_sortsHot_95 : decode cX8_sortsHot 95 = .ok (.bipush 17, 2) := by decide +kernel
theorem dX8_sortsHot_97 : decode cX8_sortsHot 97 = .ok (.dup2, 1) := by decide +kernel
theorem dX8_sortsHot_98 : decode cX8_sortsHot 98 = .ok (.iaload, 1) := by decide +kernel
theorem dX8_sortsHot_99 : decode cX8_sortsHot 99 = .ok (.iconst 1, 1) := by decide +kernel
theorem dX8_sortsHot_100 : decode cX8_sortsHot 100 = .ok (.iadd, 1) := by decide +kernel
theorem dX8_sortsHot_101 : decode cX8_sortsHot 101 = .ok (.iastore, 1) := by decide +kernel
theorem dX8_sortsHot_102 : decode cX8_sortsHot 102 = .ok (.iload_n 3, 1) := by decide +kernel
theorem dX8_sortsHot_103 : decode cX8_sortsHot 103 = .ok (.iload 5, 2) := by decide +kernel
theorem dX8_sortsHot_105 : decode cX8_sortsHot 105 = .ok (.iload 5, 2) := by decide +kernel
theorem dX8_sortsHot_107 : decode cX8_sortsHot 107 = .ok (.invokestatic 166, 3) := by decide +kernel
theorem dX8_sortsHot_110 : decode cX8_sortsHot 110 = .ok (.imul, 1) := by decide +kernel
theorem dX8_sortsHot_111 : decode cX8_sortsHot 111 = .ok (.iadd, 1) := by decide +kernel
theorem dX8_sortsHot_112 : decode cX8_sortsHot 112 = .ok (.istore_n 3, 1) := by decide +kernel
theorem dX8_sortsHot_113 : decode cX8_sortsHot 113 = .ok (.iinc 4 1, 3) := by decide +kernel
theorem dX8_sortsHot_116 : decode cX8_sortsHot 116 = .ok (.goto (-111), 3) := by decide +kernel
theorem dX8_sortsHot_119 : decode cX8_sortsHot 119 = .ok (.iload_n 3, 1) := by decide +kernel
theorem dX8_sortsHot_120 : decode cX8_sortsHot 120 = .ok (.ireturn, 1) := by decide +kernel
set_option maxRecDepth 20000 in
theorem ggX8_queries_X8_mergesIn : GoodIn wsX8_queries wsX8_mergesIn := goodIn_r _ [6, 1, 7, 8, 5, 9, 10, 11, 12, 13, 14, 15, 16, 17, 18, 19, 20, 21, 22, 23, 24, 25, 26, 27, 28, 29, 30, 31, 32, 33, 34, 35, 36, 37, 38, 39, 40, 41, 42, 43, 44, 45, 46, 47, 48, 49, 91, 92, 93, 94, 95, 96, 97, 98, 99, 100, 101, 102, 103, 104, 105, 106, 107, 108, 109, 110] (by decide +kernel) (by decide +kernel)
set_option maxRecDepth 20000 in
theorem gX8_queries_X8_mergesIn : GoodIn wsX8_queries (wsV RX8 213 RX8 yX8_mergesIn wsX8_mergesIn) := goodIn_app (goodIn_of _ (by decide +kernel)) ggX8_queries_X8_mergesIn
set_option maxRecDepth 20000 in
theorem ggX8_queries_X8_cracks : GoodIn wsX8_queries wsX8_cracks := goodIn_r _ [53, 54, 1, 14, 15, 16, 5, 17, 18, 19, 20, 21, 30, 31, 32, 33, 55, 56, 57, 58, 38, 39, 40, 41, 59, 60, 61, 91, 92, 93, 94, 95, 96, 97, 98, 99, 100, 101, 102, 103, 104, 105, 106, 107, 108, 109, 110] (by decide +kernel) (by decide +kernel)
set_option maxRecDepth 20000 in
theorem gX8_queries_X8_cracks : GoodIn wsX8_queries (wsV RX8 216 RX8 yX8_cracks wsX8_cracks) := goodIn_app (goodIn_of _ (by decide +kernel)) ggX8_queries_X8_cracks
set_option maxRecDepth 20000 in
theorem ggX8_queries_X8_readsPieces : GoodIn wsX8_queries wsX8_readsPieces := goodIn_r _ [65, 1, 66, 67, 68, 5, 69, 18, 19, 20, 21, 7, 8, 9, 38, 39, 40, 41, 30, 31, 32, 33, 70, 71, 72, 73, 55, 56, 57, 58, 91, 92, 93, 94, 95, 96, 97, 98, 99, 100, 101, 102, 103, 104, 105, 106, 107, 108, 109, 110] (by decide +kernel) (by decide +kernel)
set_option maxRecDepth 20000 in
theorem gX8_queries_X8_readsPieces : GoodIn wsX8_queries (wsV RX8 219 RX8 yX8_readsPieces wsX8_readsPieces) := goodIn_app (goodIn_of _ (by decide +kernel)) ggX8_queries_X8_readsPieces
set_option maxRecDepth 20000 in
theorem ggX8_queries_X8_sortsHot : GoodIn wsX8_queries wsX8_sortsHot := goodIn_r _ [77, 1, 78, 18, 19, 20, 5, 21, 66, 67, 68, 69, 7, 8, 9, 79, 80, 81, 82, 54, 30, 31, 32, 33, 34, 35, 36, 37, 38, 39, 40, 41, 59, 60, 61, 91, 92, 93, 94, 95, 96, 97, 98, 99, 100, 101, 102, 103, 104, 105, 106, 107, 108, 109, 110] (by decide +kernel) (by decide +kernel)
set_option maxRecDepth 20000 in
theorem gX8_queries_X8_sortsHot : GoodIn wsX8_queries (wsV RX8 222 RX8 yX8_sortsHot wsX8_sortsHot) := goodIn_app (goodIn_of _ (by decide +kernel)) ggX8_queries_X8_sortsHot
set_option maxRecDepth 20000 in
theorem ggX8_queries_X8_coldest : GoodIn wsX8_queries wsX8_coldest := goodIn_r _ [86, 1, 18, 19, 20, 5, 21, 91, 92, 93, 94, 95, 96, 97, 98, 99, 100, 101, 102, 103, 104, 105, 106, 107, 108, 109, 110] (by decide +kernel) (by decide +kernel)
set_option maxRecDepth 20000 in
theorem gX8_queries_X8_coldest : GoodIn wsX8_queries (wsV RX8 225 RX8 yX8_coldest wsX8_coldest) := goodIn_app (goodIn_of _ (by decide +kernel)) ggX8_queries_X8_coldest
set_option maxRecDepth 20000 in
theorem ggX8_queries_X8_joins : GoodIn wsX8_queries wsX8_joins := goodIn_r _ [90, 1, 18, 19, 20, 5, 21, 38, 39, 40, 41, 91, 92, 93, 94, 95, 96, 97, 98, 99, 100, 101, 102, 103, 104, 105, 106, 107, 108, 109, 110] (by decide +kernel) (by decide +kernel)
set_option maxRecDepth 20000 in
theorem gX8_queries_X8_joins : GoodIn wsX8_queries (wsV RX8 228 RX8 yX8_joins wsX8_joins) := goodIn_app (goodIn_of _ (by decide +kernel)) ggX8_queries_X8_joins
theorem dX8_queries_0 : decode cX8_queries 0 = .ok (.iconst 0, 1) := by decide +kernel
theorem dX8_queries_1 : decode cX8_queries 1 = .ok (.istore_n 3, 1) := by decide +kernel
theorem dX8_queries_2 : decode cX8_queries 2 = .ok (.iload_n 3, 1) := by decide +kernel
theorem dX8_queries_3 : decode cX8_queries 3 = .ok (.bipush 9, 2) := by decide +kernel
theorem dX8_queries_5 : decode cX8_queries 5 = .ok (.if_icmp .ge 33, 3) := by decide +kernel
theorem dX8_queries_8 : decode cX8_queries 8 = .ok (.aload_n 0, 1) := by decide +kernel
theorem dX8_queries_9 : decode cX8_queries 9 = .ok (.getfield 7, 3) := by decide +kernel
theorem dX8_queries_12 : decode cX8_queries 12 = .ok (.bipush 10, 2) := by decide +kernel
theorem dX8_queries_14 : decode cX8_queries 14 = .ok (.iload_n 3, 1) := by decide +kernel
theorem dX8_queries_15 : decode cX8_queries 15 = .ok (.iadd, 1) := by decide +kernel
theorem dX8_queries_16 : decode cX8_queries 16 = .ok (.iload_n 3, 1) := by decide +kernel
theorem dX8_queries_17 : decode cX8_queries 17 = .ok (.iconst 2, 1) := by decide +kernel
theorem dX8_queries_18 : decode cX8_queries 18 = .ok (.if_icmp .eq 8, 3) := by decide +kernel
theorem dX8_queries_21 : decode cX8_queries 21 = .ok (.iload_n 3, 1) := by decide +kernel
theorem dX8_queries_22 : decode cX8_queries 22 = .ok (.iconst 3, 1) := by decide +kernel
theorem dX8_queries_23 : decode cX8_queries 23 = .ok (.if_icmp .ne 7, 3) := by decide +kernel
theorem dX8_queries_26 : decode cX8_queries 26 = .ok (.iconst (-1), 1) := by decide +kernel
theorem dX8_queries_27 : decode cX8_queries 27 = .ok (.goto 4, 3) := by decide +kernel
theorem dX8_queries_30 : decode cX8_queries 30 = .ok (.iconst 0, 1) := by decide +kernel
theorem dX8_queries_31 : decode cX8_queries 31 = .ok (.iastore, 1) := by decide +kernel
theorem dX8_queries_32 : decode cX8_queries 32 = .ok (.iinc 3 1, 3) := by decide +kernel
theorem dX8_queries_35 : decode cX8_queries 35 = .ok (.goto (-33), 3) := by decide +kernel
theorem dX8_queries_38 : decode cX8_queries 38 = .ok (.aload_n 0, 1) := by decide +kernel
theorem dX8_queries_39 : decode cX8_queries 39 = .ok (.getfield 7, 3) := by decide +kernel
theorem dX8_queries_42 : decode cX8_queries 42 = .ok (.bipush 9, 2) := by decide +kernel
theorem dX8_queries_44 : decode cX8_queries 44 = .ok (.iconst 1, 1) := by decide +kernel
theorem dX8_queries_45 : decode cX8_queries 45 = .ok (.iastore, 1) := by decide +kernel
theorem dX8_queries_46 : decode cX8_queries 46 = .ok (.aload_n 0, 1) := by decide +kernel
theorem dX8_queries_47 : decode cX8_queries 47 = .ok (.iload_n 1, 1) := by decide +kernel
theorem dX8_queries_48 : decode cX8_queries 48 = .ok (.iload_n 2, 1) := by decide +kernel
theorem dX8_queries_49 : decode cX8_queries 49 = .ok (.invokevirtual 213, 3) := by decide +kernel
theorem dX8_queries_52 : decode cX8_queries 52 = .ok (.istore_n 3, 1) := by decide +kernel
theorem dX8_queries_53 : decode cX8_queries 53 = .ok (.iload_n 3, 1) := by decide +kernel
theorem dX8_queries_54 : decode cX8_queries 54 = .ok (.aload_n 0, 1) := by decide +kernel
theorem dX8_queries_55 : decode cX8_queries 55 = .ok (.iload_n 1, 1) := by decide +kernel
theorem dX8_queries_56 : decode cX8_queries 56 = .ok (.invokevirtual 216, 3) := by decide +kernel
theorem dX8_queries_59 : decode cX8_queries 59 = .ok (.iadd, 1) := by decide +kernel
theorem dX8_queries_60 : decode cX8_queries 60 = .ok (.istore_n 3, 1) := by decide +kernel
theorem dX8_queries_61 : decode cX8_queries 61 = .ok (.iload_n 3, 1) := by decide +kernel
theorem dX8_queries_62 : decode cX8_queries 62 = .ok (.aload_n 0, 1) := by decide +kernel
theorem dX8_queries_63 : decode cX8_queries 63 = .ok (.iload_n 2, 1) := by decide +kernel
theorem dX8_queries_64 : decode cX8_queries 64 = .ok (.invokevirtual 216, 3) := by decide +kernel
theorem dX8_queries_67 : decode cX8_queries 67 = .ok (.iadd, 1) := by decide +kernel
theorem dX8_queries_68 : decode cX8_queries 68 = .ok (.istore_n 3, 1) := by decide +kernel
theorem dX8_queries_69 : decode cX8_queries 69 = .ok (.iload_n 3, 1) := by decide +kernel
theorem dX8_queries_70 : decode cX8_queries 70 = .ok (.aload_n 0, 1) := by decide +kernel
theorem dX8_queries_71 : decode cX8_queries 71 = .ok (.iload_n 1, 1) := by decide +kernel
theorem dX8_queries_72 : decode cX8_queries 72 = .ok (.iload_n 2, 1) := by decide +kernel
theorem dX8_queries_73 : decode cX8_queries 73 = .ok (.invokevirtual 219, 3) := by decide +kernel
theorem dX8_queries_76 : decode cX8_queries 76 = .ok (.iadd, 1) := by decide +kernel
theorem dX8_queries_77 : decode cX8_queries 77 = .ok (.istore_n 3, 1) := by decide +kernel
theorem dX8_queries_78 : decode cX8_queries 78 = .ok (.iload_n 3, 1) := by decide +kernel
theorem dX8_queries_79 : decode cX8_queries 79 = .ok (.aload_n 0, 1) := by decide +kernel
theorem dX8_queries_80 : decode cX8_queries 80 = .ok (.iload_n 1, 1) := by decide +kernel
theorem dX8_queries_81 : decode cX8_queries 81 = .ok (.iload_n 2, 1) := by decide +kernel
theorem dX8_queries_82 : decode cX8_queries 82 = .ok (.invokevirtual 222, 3) := by decide +kernel
theorem dX8_queries_85 : decode cX8_queries 85 = .ok (.iadd, 1) := by decide +kernel
theorem dX8_queries_86 : decode cX8_queries 86 = .ok (.istore_n 3, 1) := by decide +kernel
theorem dX8_queries_87 : decode cX8_queries 87 = .ok (.aload_n 0, 1) := by decide +kernel
theorem dX8_queries_88 : decode cX8_queries 88 = .ok (.getfield 7, 3) := by decide +kernel
theorem dX8_queries_91 : decode cX8_queries 91 = .ok (.iconst 3, 1) := by decide +kernel
theorem dX8_queries_92 : decode cX8_queries 92 = .ok (.iaload, 1) := by decide +kernel
theorem dX8_queries_93 : decode cX8_queries 93 = .ok (.aload_n 0, 1) := by decide +kernel
theorem dX8_queries_94 : decode cX8_queries 94 = .ok (.getfield 7, 3) := by decide +kernel
theorem dX8_queries_97 : decode cX8_queries 97 = .ok (.bipush 6, 2) := by decide +kernel
theorem dX8_queries_99 : decode cX8_queries 99 = .ok (.iaload, 1) := by decide +kernel
theorem dX8_queries_100 : decode cX8_queries 100 = .ok (.if_icmp .le 25, 3) := by decide +kernel
theorem dX8_queries_103 : decode cX8_queries 103 = .ok (.aload_n 0, 1) := by decide +kernel
theorem dX8_queries_104 : decode cX8_queries 104 = .ok (.aload_n 0, 1) := by decide +kernel
theorem dX8_queries_105 : decode cX8_queries 105 = .ok (.invokevirtual 225, 3) := by decide +kernel
theorem dX8_queries_108 : decode cX8_queries 108 = .ok (.invokevirtual 228, 3) := by decide +kernel
theorem dX8_queries_111 : decode cX8_queries 111 = .ok (.aload_n 0, 1) := by decide +kernel
theorem dX8_queries_112 : decode cX8_queries 112 = .ok (.getfield 7, 3) := by decide +kernel
theorem dX8_queries_115 : decode cX8_queries 115 = .ok (.bipush 18, 2) := by decide +kernel
theorem dX8_queries_117 : decode cX8_queries 117 = .ok (.dup2, 1) := by decide +kernel
theorem dX8_queries_118 : decode cX8_queries 118 = .ok (.iaload, 1) := by decide +kernel
theorem dX8_queries_119 : decode cX8_queries 119 = .ok (.iconst 1, 1) := by decide +kernel
theorem dX8_queries_120 : decode cX8_queries 120 = .ok (.iadd, 1) := by decide +kernel
theorem dX8_queries_121 : decode cX8_queries 121 = .ok (.iastore, 1) := by decide +kernel
theorem dX8_queries_122 : decode cX8_queries 122 = .ok (.goto (-35), 3) := by decide +kernel
theorem dX8_queries_125 : decode cX8_queries 125 = .ok (.aload_n 0, 1) := by decide +kernel
theorem dX8_queries_126 : decode cX8_queries 126 = .ok (.getfield 7, 3) := by decide +kernel
theorem dX8_queries_129 : decode cX8_queries 129 = .ok (.bipush 14, 2) := by decide +kernel
theorem dX8_queries_131 : decode cX8_queries 131 = .ok (.iload_n 3, 1) := by decide +kernel
theorem dX8_queries_132 : decode cX8_queries 132 = .ok (.iastore, 1) := by decide +kernel
theorem dX8_queries_133 : decode cX8_queries 133 = .ok (.aload_n 0, 1) := by decide +kernel
theorem dX8_queries_134 : decode cX8_queries 134 = .ok (.getfield 7, 3) := by decide +kernel
theorem dX8_queries_137 : decode cX8_queries 137 = .ok (.bipush 8, 2) := by decide +kernel
theorem dX8_queries_139 : decode cX8_queries 139 = .ok (.dup2, 1) := by decide +kernel
theorem dX8_queries_140 : decode cX8_queries 140 = .ok (.iaload, 1) := by decide +kernel
theorem dX8_queries_141 : decode cX8_queries 141 = .ok (.iload_n 3, 1) := by decide +kernel
theorem dX8_queries_142 : decode cX8_queries 142 = .ok (.iadd, 1) := by decide +kernel
theorem dX8_queries_143 : decode cX8_queries 143 = .ok (.iastore, 1) := by decide +kernel
theorem dX8_queries_144 : decode cX8_queries 144 = .ok (.return_, 1) := by decide +kernel
theorem dX8_notes_0 : decode cX8_notes 0 = .ok (.aload_n 0, 1) := by decide +kernel
theorem dX8_notes_1 : decode cX8_notes 1 = .ok (.getfield 7, 3) := by decide +kernel
theorem dX8_notes_4 : decode cX8_notes 4 = .ok (.bipush 19, 2) := by decide +kernel
theorem dX8_notes_6 : decode cX8_notes 6 = .ok (.iaload, 1) := by decide +kernel
theorem dX8_notes_7 : decode cX8_notes 7 = .ok (.bipush 20, 2) := by decide +kernel
theorem dX8_notes_9 : decode cX8_notes 9 = .ok (.if_icmp .ge 13, 3) := by decide +kernel
theorem dX8_notes_12 : decode cX8_notes 12 = .ok (.aload_n 0, 1) := by decide +kernel
theorem dX8_notes_13 : decode cX8_notes 13 = .ok (.getfield 7, 3) := by decide +kernel
theorem dX8_notes_16 : decode cX8_notes 16 = .ok (.bipush 19, 2) := by decide +kernel
theorem dX8_notes_18 : decode cX8_notes 18 = .ok (.iaload, 1) := by decide +kernel
theorem dX8_notes_19 : decode cX8_notes 19 = .ok (.goto 5, 3) := by decide +kernel
theorem dX8_notes_22 : decode cX8_notes 22 = .ok (.bipush 19, 2) := by decide +kernel
theorem dX8_notes_24 : decode cX8_notes 24 = .ok (.istore_n 3, 1) := by decide +kernel
theorem dX8_notes_25 : decode cX8_notes 25 = .ok (.sipush 796, 3) := by decide +kernel
theorem dX8_notes_28 : decode cX8_notes 28 = .ok (.iconst 4, 1) := by decide +kernel
theorem dX8_notes_29 : decode cX8_notes 29 = .ok (.iload_n 3, 1) := by decide +kernel
theorem dX8_notes_30 : decode cX8_notes 30 = .ok (.imul, 1) := by decide +kernel
theorem dX8_notes_31 : decode cX8_notes 31 = .ok (.iadd, 1) := by decide +kernel
theorem dX8_notes_32 : decode cX8_notes 32 = .ok (.iconst 1, 1) := by decide +kernel
theorem dX8_notes_33 : decode cX8_notes 33 = .ok (.isub, 1) := by decide +kernel
theorem dX8_notes_34 : decode cX8_notes 34 = .ok (.istore 4, 2) := by decide +kernel
theorem dX8_notes_36 : decode cX8_notes 36 = .ok (.iload 4, 2) := by decide +kernel
theorem dX8_notes_38 : decode cX8_notes 38 = .ok (.sipush 796, 3) := by decide +kernel
theorem dX8_notes_41 : decode cX8_notes 41 = .ok (.if_icmp .lt 25, 3) := by decide +kernel
theorem dX8_notes_44 : decode cX8_notes 44 = .ok (.aload_n 0, 1) := by decide +kernel
theorem dX8_notes_45 : decode cX8_notes 45 = .ok (.getfield 7, 3) := by decide +kernel
theorem dX8_notes_48 : decode cX8_notes 48 = .ok (.iload 4, 2) := by decide +kernel
theorem dX8_notes_50 : decode cX8_notes 50 = .ok (.iconst 4, 1) := by decide +kernel
theorem dX8_notes_51 : decode cX8_notes 51 = .ok (.iadd, 1) := by decide +kernel
theorem dX8_notes_52 : decode cX8_notes 52 = .ok (.aload_n 0, 1) := by decide +kernel
theorem dX8_notes_53 : decode cX8_notes 53 = .ok (.getfield 7, 3) := by decide +kernel
theorem dX8_notes_56 : decode cX8_notes 56 = .ok (.iload 4, 2) := by decide +kernel
theorem dX8_notes_58 : decode cX8_notes 58 = .ok (.iaload, 1) := by decide +kernel
theorem dX8_notes_59 : decode cX8_notes 59 = .ok (.iastore, 1) := by decide +kernel
theorem dX8_notes_60 : decode cX8_notes 60 = .ok (.iinc 4 (-1), 3) := by decide +kernel
theorem dX8_notes_63 : decode cX8_notes 63 = .ok (.goto (-27), 3) := by decide +kernel
theorem dX8_notes_66 : decode cX8_notes 66 = .ok (.aload_n 0, 1) := by decide +kernel
theorem dX8_notes_67 : decode cX8_notes 67 = .ok (.getfield 7, 3) := by decide +kernel
theorem dX8_notes_70 : decode cX8_notes 70 = .ok (.bipush 19, 2) := by decide +kernel
theorem dX8_notes_72 : decode cX8_notes 72 = .ok (.iload_n 3, 1) := by decide +kernel
theorem dX8_notes_73 : decode cX8_notes 73 = .ok (.iconst 1, 1) := by decide +kernel
theorem dX8_notes_74 : decode cX8_notes 74 = .ok (.iadd, 1) := by decide +kernel
theorem dX8_notes_75 : decode cX8_notes 75 = .ok (.iastore, 1) := by decide +kernel
theorem dX8_notes_76 : decode cX8_notes 76 = .ok (.aload_n 0, 1) := by decide +kernel
theorem dX8_notes_77 : decode cX8_notes 77 = .ok (.getfield 7, 3) := by decide +kernel
theorem dX8_notes_80 : decode cX8_notes 80 = .ok (.sipush 796, 3) := by decide +kernel
theorem dX8_notes_83 : decode cX8_notes 83 = .ok (.iload_n 1, 1) := by decide +kernel
theorem dX8_notes_84 : decode cX8_notes 84 = .ok (.iastore, 1) := by decide +kernel
theorem dX8_notes_85 : decode cX8_notes 85 = .ok (.aload_n 0, 1) := by decide +kernel
theorem dX8_notes_86 : decode cX8_notes 86 = .ok (.getfield 7, 3) := by decide +kernel
theorem dX8_notes_89 : decode cX8_notes 89 = .ok (.sipush 797, 3) := by decide +kernel
theorem dX8_notes_92 : decode cX8_notes 92 = .ok (.iload_n 2, 1) := by decide +kernel
theorem dX8_notes_93 : decode cX8_notes 93 = .ok (.iastore, 1) := by decide +kernel
theorem dX8_notes_94 : decode cX8_notes 94 = .ok (.aload_n 0, 1) := by decide +kernel
theorem dX8_notes_95 : decode cX8_notes 95 = .ok (.getfield 7, 3) := by decide +kernel
theorem dX8_notes_98 : decode cX8_notes 98 = .ok (.sipush 798, 3) := by decide +kernel
theorem dX8_notes_101 : decode cX8_notes 101 = .ok (.aload_n 0, 1) := by decide +kernel
theorem dX8_notes_102 : decode cX8_notes 102 = .ok (.getfield 7, 3) := by decide +kernel
theorem dX8_notes_105 : decode cX8_notes 105 = .ok (.bipush 10, 2) := by decide +kernel
theorem dX8_notes_107 : decode cX8_notes 107 = .ok (.iaload, 1) := by decide +kernel
theorem dX8_notes_108 : decode cX8_notes 108 = .ok (.iastore, 1) := by decide +kernel
theorem dX8_notes_109 : decode cX8_notes 109 = .ok (.aload_n 0, 1) := by decide +kernel
theorem dX8_notes_110 : decode cX8_notes 110 = .ok (.getfield 7, 3) := by decide +kernel
theorem dX8_notes_113 : decode cX8_notes 113 = .ok (.sipush 799, 3) := by decide +kernel
theorem dX8_notes_116 : decode cX8_notes 116 = .ok (.aload_n 0, 1) := by decide +kernel
theorem dX8_notes_117 : decode cX8_notes 117 = .ok (.getfield 7, 3) := by decide +kernel
theorem dX8_notes_120 : decode cX8_notes 120 = .ok (.bipush 14, 2) := by decide +kernel
theorem dX8_notes_122 : decode cX8_notes 122 = .ok (.iaload, 1) := by decide +kernel
theorem dX8_notes_123 : decode cX8_notes 123 = .ok (.iastore, 1) := by decide +kernel
theorem dX8_notes_124 : decode cX8_notes 124 = .ok (.return_, 1) := by decide +kernel
set_option maxRecDepth 20000 in
theorem ggX8_query_X8_isSpan : GoodIn wsX8_query wsX8_isSpan := goodIn_r _ [6, 7, 8, 5, 9] (by decide +kernel) (by decide +kernel)
set_option maxRecDepth 20000 in
theorem gX8_query_X8_isSpan : GoodIn wsX8_query (va_wsS RX8 231 yX8_isSpan wsX8_isSpan) := goodIn_app (goodIn_of _ (by decide +kernel)) ggX8_query_X8_isSpan
set_option maxRecDepth 20000 in
theorem ggX8_query_X8_keeps : GoodIn wsX8_query wsX8_keeps := goodIn_r _ [13, 14, 15, 2, 109, 110, 111, 112, 113, 114, 115, 116, 117, 118, 119, 120, 121, 122, 123, 124, 125, 126, 127, 128] (by decide +kernel) (by decide +kernel)
set_option maxRecDepth 20000 in
theorem gX8_query_X8_keeps : GoodIn wsX8_query (wsV RX8 147 RX8 yX8_keeps wsX8_keeps) := goodIn_app (goodIn_of _ (by decide +kernel)) ggX8_query_X8_keeps
set_option maxRecDepth 20000 in
theorem ggX8_query_X8_queries : GoodIn wsX8_query wsX8_queries := goodIn_r _ [19, 2, 20, 21, 22, 5, 23, 7, 8, 9, 24, 25, 26, 27, 28, 29, 30, 31, 32, 33, 34, 35, 36, 37, 38, 39, 40, 41, 42, 43, 44, 45, 46, 47, 48, 49, 50, 51, 52, 53, 54, 55, 56, 57, 58, 59, 60, 61, 62, 63, 64, 65, 66, 67, 68, 69, 70, 71, 72, 73, 74, 75, 76, 77, 78, 79, 80, 81, 82, 83, 84, 85, 86, 87, 88, 89, 90, 91, 92, 93, 94, 95, 96, 97, 98, 99, 100, 101, 102, 103, 104, 109, 110, 111, 112, 113, 114, 115, 116, 117, 118, 119, 120, 121, 122, 123, 124, 125, 126, 127, 128] (by decide +kernel) (by decide +kernel)
set_option maxRecDepth 20000 in
theorem gX8_query_X8_queries : GoodIn wsX8_query (wsV RX8 234 RX8 yX8_queries wsX8_queries) := goodIn_app (goodIn_of _ (by decide +kernel)) ggX8_query_X8_queries
set_option maxRecDepth 20000 in
theorem ggX8_query_X8_notes : GoodIn wsX8_query wsX8_notes := goodIn_r _ [108, 2, 109, 110, 111, 112, 113, 114, 115, 116, 117, 118, 119, 120, 121, 122, 123, 124, 125, 126, 127, 128] (by decide +kernel) (by decide +kernel)
set_option maxRecDepth 20000 in
theorem gX8_query_X8_notes : GoodIn wsX8_query (wsV RX8 237 RX8 yX8_notes wsX8_notes) := goodIn_app (goodIn_of _ (by decide +kernel)) ggX8_query_X8_notes
theorem dX8_query_0 : decode cX8_query 0 = .ok (.aload_n 0, 1) := by decide +kernel
theorem dX8_query_1 : decode cX8_query 1 = .ok (.iload_n 1, 1) := by decide +kernel
theorem dX8_query_2 : decode cX8_query 2 = .ok (.iload_n 2, 1) := by decide +kernel
theorem dX8_query_3 : decode cX8_query 3 = .ok (.invokestatic 231, 3) := by decide +kernel
theorem dX8_query_6 : decode cX8_query 6 = .ok (.ifCond .eq 7, 3) := by decide +kernel
theorem dX8_query_9 : decode cX8_query 9 = .ok (.iconst 0, 1) := by decide +kernel
theorem dX8_query_10 : decode cX8_query 10 = .ok (.goto 4, 3) := by decide +kernel
theorem dX8_query_13 : decode cX8_query 13 = .ok (.iconst 1, 1) := by decide +kernel
theorem dX8_query_14 : decode cX8_query 14 = .ok (.putfield 45, 3) := by decide +kernel
theorem dX8_query_17 : decode cX8_query 17 = .ok (.aload_n 0, 1) := by decide +kernel
theorem dX8_query_18 : decode cX8_query 18 = .ok (.getfield 45, 3) := by decide +kernel
theorem dX8_query_21 : decode cX8_query 21 = .ok (.ifCond .le 5, 3) := by decide +kernel
theorem dX8_query_24 : decode cX8_query 24 = .ok (.iconst 0, 1) := by decide +kernel
theorem dX8_query_25 : decode cX8_query 25 = .ok (.ireturn, 1) := by decide +kernel
theorem dX8_query_26 : decode cX8_query 26 = .ok (.aload_n 0, 1) := by decide +kernel
theorem dX8_query_27 : decode cX8_query 27 = .ok (.invokevirtual 147, 3) := by decide +kernel
theorem dX8_query_30 : decode cX8_query 30 = .ok (.aload_n 0, 1) := by decide +kernel
theorem dX8_query_31 : decode cX8_query 31 = .ok (.iload_n 1, 1) := by decide +kernel
theorem dX8_query_32 : decode cX8_query 32 = .ok (.iload_n 2, 1) := by decide +kernel
theorem dX8_query_33 : decode cX8_query 33 = .ok (.invokevirtual 234, 3) := by decide +kernel
theorem dX8_query_36 : decode cX8_query 36 = .ok (.aload_n 0, 1) := by decide +kernel
theorem dX8_query_37 : decode cX8_query 37 = .ok (.iload_n 1, 1) := by decide +kernel
theorem dX8_query_38 : decode cX8_query 38 = .ok (.iload_n 2, 1) := by decide +kernel
theorem dX8_query_39 : decode cX8_query 39 = .ok (.invokevirtual 237, 3) := by decide +kernel
theorem dX8_query_42 : decode cX8_query 42 = .ok (.aload_n 0, 1) := by decide +kernel
theorem dX8_query_43 : decode cX8_query 43 = .ok (.getfield 7, 3) := by decide +kernel
theorem dX8_query_46 : decode cX8_query 46 = .ok (.bipush 10, 2) := by decide +kernel
theorem dX8_query_48 : decode cX8_query 48 = .ok (.iaload, 1) := by decide +kernel
theorem dX8_query_49 : decode cX8_query 49 = .ok (.ireturn, 1) := by decide +kernel
set_option maxRecDepth 20000 in
theorem ggX8_answer_X8_isIn : GoodIn wsX8_answer wsX8_isIn := goodIn_r _ [6] (by decide +kernel) (by decide +kernel)
set_option maxRecDepth 20000 in
theorem gX8_answer_X8_isIn : GoodIn wsX8_answer (va_wsS RX8 57 yX8_isIn wsX8_isIn) := goodIn_app (goodIn_of _ (by decide +kernel)) ggX8_answer_X8_isIn
theorem dX8_answer_0 : decode cX8_answer 0 = .ok (.aload_n 0, 1) := by decide +kernel
theorem dX8_answer_1 : decode cX8_answer 1 = .ok (.iload_n 1, 1) := by decide +kernel
theorem dX8_answer_2 : decode cX8_answer 2 = .ok (.iconst 0, 1) := by decide +kernel
theorem dX8_answer_3 : decode cX8_answer 3 = .ok (.bipush 8, 2) := by decide +kernel
theorem dX8_answer_5 : decode cX8_answer 5 = .ok (.invokestatic 57, 3) := by decide +kernel
theorem dX8_answer_8 : decode cX8_answer 8 = .ok (.ifCond .ne 7, 3) := by decide +kernel
theorem dX8_answer_11 : decode cX8_answer 11 = .ok (.iconst 1, 1) := by decide +kernel
theorem dX8_answer_12 : decode cX8_answer 12 = .ok (.goto 18, 3) := by decide +kernel
theorem dX8_answer_15 : decode cX8_answer 15 = .ok (.aload_n 0, 1) := by decide +kernel
theorem dX8_answer_16 : decode cX8_answer 16 = .ok (.getfield 7, 3) := by decide +kernel
theorem dX8_answer_19 : decode cX8_answer 19 = .ok (.bipush 9, 2) := by decide +kernel
theorem dX8_answer_21 : decode cX8_answer 21 = .ok (.iaload, 1) := by decide +kernel
theorem dX8_answer_22 : decode cX8_answer 22 = .ok (.ifCond .ne 7, 3) := by decide +kernel
theorem dX8_answer_25 : decode cX8_answer 25 = .ok (.iconst 2, 1) := by decide +kernel
theorem dX8_answer_26 : decode cX8_answer 26 = .ok (.goto 4, 3) := by decide +kernel
theorem dX8_answer_29 : decode cX8_answer 29 = .ok (.iconst 0, 1) := by decide +kernel
theorem dX8_answer_30 : decode cX8_answer 30 = .ok (.putfield 45, 3) := by decide +kernel
theorem dX8_answer_33 : decode cX8_answer 33 = .ok (.aload_n 0, 1) := by decide +kernel
theorem dX8_answer_34 : decode cX8_answer 34 = .ok (.getfield 45, 3) := by decide +kernel
theorem dX8_answer_37 : decode cX8_answer 37 = .ok (.ifCond .le 7, 3) := by decide +kernel
theorem dX8_answer_40 : decode cX8_answer 40 = .ok (.iconst 0, 1) := by decide +kernel
theorem dX8_answer_41 : decode cX8_answer 41 = .ok (.goto 12, 3) := by decide +kernel
theorem dX8_answer_44 : decode cX8_answer 44 = .ok (.aload_n 0, 1) := by decide +kernel
theorem dX8_answer_45 : decode cX8_answer 45 = .ok (.getfield 7, 3) := by decide +kernel
theorem dX8_answer_48 : decode cX8_answer 48 = .ok (.bipush 10, 2) := by decide +kernel
theorem dX8_answer_50 : decode cX8_answer 50 = .ok (.iload_n 1, 1) := by decide +kernel
theorem dX8_answer_51 : decode cX8_answer 51 = .ok (.iadd, 1) := by decide +kernel
theorem dX8_answer_52 : decode cX8_answer 52 = .ok (.iaload, 1) := by decide +kernel
theorem dX8_answer_53 : decode cX8_answer 53 = .ok (.ireturn, 1) := by decide +kernel
set_option maxRecDepth 20000 in
theorem ggX8_costOf_X8_isSpan : GoodIn wsX8_costOf wsX8_isSpan := goodIn_r _ [5, 6, 7, 4, 8] (by decide +kernel) (by decide +kernel)
set_option maxRecDepth 20000 in
theorem gX8_costOf_X8_isSpan : GoodIn wsX8_costOf (va_wsS RX8 231 yX8_isSpan wsX8_isSpan) := goodIn_app (goodIn_of _ (by decide +kernel)) ggX8_costOf_X8_isSpan
set_option maxRecDepth 20000 in
theorem ggX8_costOf_X8_costNow : GoodIn wsX8_costOf wsX8_costNow := goodIn_r _ [12, 13, 14, 15, 16, 4, 17, 18, 19, 20, 21, 22, 23, 24, 25, 6, 7, 8, 26, 27, 28, 29, 30, 31, 32, 33, 34, 35, 36, 37, 38, 39, 40, 41, 42, 43, 44, 45, 46, 47, 48, 49, 50, 51, 52, 53, 54, 55, 56, 57, 58, 59, 60, 61, 62, 63, 64, 65, 66, 67, 68, 69, 70, 71, 72, 73, 74, 75, 76, 77, 78, 79, 80, 81, 82, 83, 84, 85, 86, 87, 88, 89, 90, 91, 92, 93, 94, 95, 96, 97, 98, 99, 100, 101, 102, 103, 104, 105, 106, 107, 108, 109, 110, 111, 112, 113, 114, 115, 116, 117, 118, 119, 120, 121, 122, 123, 124, 125, 126] (by decide +kernel) (by decide +kernel)
set_option maxRecDepth 20000 in
theorem gX8_costOf_X8_costNow : GoodIn wsX8_costOf (wsV RX8 240 RX8 yX8_costNow wsX8_costNow) := goodIn_app (goodIn_of _ (by decide +kernel)) ggX8_costOf_X8_costNow
theorem dX8_costOf_0 : decode cX8_costOf 0 = .ok (.aload_n 0, 1) := by decide +kernel
theorem dX8_costOf_1 : decode cX8_costOf 1 = .ok (.iload_n 1, 1) := by decide +kernel
theorem dX8_costOf_2 : decode cX8_costOf 2 = .ok (.iload_n 2, 1) := by decide +kernel
theorem dX8_costOf_3 : decode cX8_costOf 3 = .ok (.invokestatic 231, 3) := by decide +kernel
theorem dX8_costOf_6 : decode cX8_costOf 6 = .ok (.ifCond .eq 7, 3) := by decide +kernel
theorem dX8_costOf_9 : decode cX8_costOf 9 = .ok (.iconst 0, 1) := by decide +kernel
theorem dX8_costOf_10 : decode cX8_costOf 10 = .ok (.goto 4, 3) := by decide +kernel
theorem dX8_costOf_13 : decode cX8_costOf 13 = .ok (.iconst 1, 1) := by decide +kernel
theorem dX8_costOf_14 : decode cX8_costOf 14 = .ok (.putfield 45, 3) := by decide +kernel
theorem dX8_costOf_17 : decode cX8_costOf 17 = .ok (.aload_n 0, 1) := by decide +kernel
theorem dX8_costOf_18 : decode cX8_costOf 18 = .ok (.getfield 45, 3) := by decide +kernel
theorem dX8_costOf_21 : decode cX8_costOf 21 = .ok (.ifCond .le 5, 3) := by decide +kernel
theorem dX8_costOf_24 : decode cX8_costOf 24 = .ok (.iconst 0, 1) := by decide +kernel
theorem dX8_costOf_25 : decode cX8_costOf 25 = .ok (.ireturn, 1) := by decide +kernel
theorem dX8_costOf_26 : decode cX8_costOf 26 = .ok (.aload_n 0, 1) := by decide +kernel
theorem dX8_costOf_27 : decode cX8_costOf 27 = .ok (.iload_n 1, 1) := by decide +kernel
theorem dX8_costOf_28 : decode cX8_costOf 28 = .ok (.iload_n 2, 1) := by decide +kernel
theorem dX8_costOf_29 : decode cX8_costOf 29 = .ok (.invokevirtual 240, 3) := by decide +kernel
theorem dX8_costOf_32 : decode cX8_costOf 32 = .ok (.ireturn, 1) := by decide +kernel
set_option maxRecDepth 20000 in
theorem ggX8_costNow_X8_sets : GoodIn wsX8_costNow wsX8_sets := goodIn_r _ [6] (by decide +kernel) (by decide +kernel)
set_option maxRecDepth 20000 in
theorem gX8_costNow_X8_sets : GoodIn wsX8_costNow (va_wsS RX8 38 yX8_sets wsX8_sets) := goodIn_app (goodIn_of _ (by decide +kernel)) ggX8_costNow_X8_sets
set_option maxRecDepth 20000 in
theorem ggX8_costNow_X8_queries : GoodIn wsX8_costNow wsX8_queries := goodIn_r _ [10, 2, 11, 12, 13, 5, 14, 15, 16, 17, 18, 19, 20, 21, 22, 23, 24, 25, 26, 27, 28, 29, 30, 31, 32, 33, 34, 35, 36, 37, 38, 39, 40, 41, 42, 43, 44, 45, 46, 47, 48, 49, 50, 51, 52, 53, 54, 55, 56, 57, 58, 59, 60, 61, 62, 63, 64, 65, 66, 67, 68, 69, 70, 71, 72, 73, 74, 75, 76, 77, 78, 79, 80, 81, 82, 83, 84, 85, 86, 87, 88, 89, 90, 91, 92, 93, 94, 95, 96, 97, 98, 99, 100, 101, 102, 103, 104, 105, 106, 107, 108, 109, 110, 111, 112, 113, 114, 115, 116, 117, 118] (by decide +kernel) (by decide +kernel)
set_option maxRecDepth 20000 in
theorem gX8_costNow_X8_queries : GoodIn wsX8_costNow (wsV RX8 234 RX8 yX8_queries wsX8_queries) := goodIn_app (goodIn_of _ (by decide +kernel)) ggX8_costNow_X8_queries
theorem dX8_costNow_0 : decode cX8_costNow 0 = .ok (.aload_n 0, 1) := by decide +kernel
theorem dX8_costNow_1 : decode cX8_costNow 1 = .ok (.getfield 16, 3) := by decide +kernel
theorem dX8_costNow_4 : decode cX8_costNow 4 = .ok (.aload_n 0, 1) := by decide +kernel
theorem dX8_costNow_5 : decode cX8_costNow 5 = .ok (.getfield 7, 3) := by decide +kernel
theorem dX8_costNow_8 : decode cX8_costNow 8 = .ok (.invokestatic 38, 3) := by decide +kernel
theorem dX8_costNow_11 : decode cX8_costNow 11 = .ok (.aload_n 0, 1) := by decide +kernel
theorem dX8_costNow_12 : decode cX8_costNow 12 = .ok (.iload_n 1, 1) := by decide +kernel
theorem dX8_costNow_13 : decode cX8_costNow 13 = .ok (.iload_n 2, 1) := by decide +kernel
theorem dX8_costNow_14 : decode cX8_costNow 14 = .ok (.invokevirtual 234, 3) := by decide +kernel
theorem dX8_costNow_17 : decode cX8_costNow 17 = .ok (.aload_n 0, 1) := by decide +kernel
theorem dX8_costNow_18 : decode cX8_costNow 18 = .ok (.getfield 7, 3) := by decide +kernel
theorem dX8_costNow_21 : decode cX8_costNow 21 = .ok (.bipush 14, 2) := by decide +kernel
theorem dX8_costNow_23 : decode cX8_costNow 23 = .ok (.iaload, 1) := by decide +kernel
theorem dX8_costNow_24 : decode cX8_costNow 24 = .ok (.istore_n 3, 1) := by decide +kernel
theorem dX8_costNow_25 : decode cX8_costNow 25 = .ok (.aload_n 0, 1) := by decide +kernel
theorem dX8_costNow_26 : decode cX8_costNow 26 = .ok (.getfield 7, 3) := by decide +kernel
theorem dX8_costNow_29 : decode cX8_costNow 29 = .ok (.aload_n 0, 1) := by decide +kernel
theorem dX8_costNow_30 : decode cX8_costNow 30 = .ok (.getfield 16, 3) := by decide +kernel
theorem dX8_costNow_33 : decode cX8_costNow 33 = .ok (.invokestatic 38, 3) := by decide +kernel
theorem dX8_costNow_36 : decode cX8_costNow 36 = .ok (.iload_n 3, 1) := by decide +kernel
theorem dX8_costNow_37 : decode cX8_costNow 37 = .ok (.ireturn, 1) := by decide +kernel
theorem dX8_askedOf_0 : decode cX8_askedOf 0 = .ok (.aload_n 0, 1) := by decide +kernel
theorem dX8_askedOf_1 : decode cX8_askedOf 1 = .ok (.getfield 7, 3) := by decide +kernel
theorem dX8_askedOf_4 : decode cX8_askedOf 4 = .ok (.sipush 796, 3) := by decide +kernel
theorem dX8_askedOf_7 : decode cX8_askedOf 7 = .ok (.iconst 4, 1) := by decide +kernel
theorem dX8_askedOf_8 : decode cX8_askedOf 8 = .ok (.iload_n 1, 1) := by decide +kernel
theorem dX8_askedOf_9 : decode cX8_askedOf 9 = .ok (.imul, 1) := by decide +kernel
theorem dX8_askedOf_10 : decode cX8_askedOf 10 = .ok (.iadd, 1) := by decide +kernel
theorem dX8_askedOf_11 : decode cX8_askedOf 11 = .ok (.iload_n 2, 1) := by decide +kernel
theorem dX8_askedOf_12 : decode cX8_askedOf 12 = .ok (.iadd, 1) := by decide +kernel
theorem dX8_askedOf_13 : decode cX8_askedOf 13 = .ok (.iaload, 1) := by decide +kernel
theorem dX8_askedOf_14 : decode cX8_askedOf 14 = .ok (.ireturn, 1) := by decide +kernel
set_option maxRecDepth 20000 in
theorem ggX8_asked_X8_isIn : GoodIn wsX8_asked wsX8_isIn := goodIn_r _ [6] (by decide +kernel) (by decide +kernel)
set_option maxRecDepth 20000 in
theorem gX8_asked_X8_isIn : GoodIn wsX8_asked (va_wsS RX8 57 yX8_isIn wsX8_isIn) := goodIn_app (goodIn_of _ (by decide +kernel)) ggX8_asked_X8_isIn
set_option maxRecDepth 20000 in
theorem ggX8_asked_X8_askedOf : GoodIn wsX8_asked wsX8_askedOf := goodIn_r _ [10, 1, 108, 109, 110, 111, 112, 113, 114, 115, 116, 117, 118, 119, 120, 121, 122, 123, 124, 125, 126, 127] (by decide +kernel) (by decide +kernel)
set_option maxRecDepth 20000 in
theorem gX8_asked_X8_askedOf : GoodIn wsX8_asked (wsV RX8 243 RX8 yX8_askedOf wsX8_askedOf) := goodIn_app (goodIn_of _ (by decide +kernel)) ggX8_asked_X8_askedOf
set_option maxRecDepth 20000 in
theorem ggX8_asked_X8_costNow : GoodIn wsX8_asked wsX8_costNow := goodIn_r _ [14, 15, 1, 16, 17, 5, 18, 19, 20, 21, 22, 23, 24, 25, 26, 3, 4, 6, 27, 28, 29, 30, 31, 32, 33, 34, 35, 36, 37, 38, 39, 40, 41, 42, 43, 44, 45, 46, 47, 48, 49, 50, 51, 52, 53, 54, 55, 56, 57, 58, 59, 60, 61, 62, 63, 64, 65, 66, 67, 68, 69, 70, 71, 72, 73, 74, 75, 76, 77, 78, 79, 80, 81, 82, 83, 84, 85, 86, 87, 88, 89, 90, 91, 92, 93, 94, 95, 96, 97, 98, 99, 100, 101, 102, 103, 104, 105, 106, 107, 108, 109, 110, 111, 112, 113, 114, 115, 116, 117, 118, 119, 120, 121, 122, 123, 124, 125, 126, 127] (by decide +kernel) (by decide +kernel)
set_option maxRecDepth 20000 in
theorem gX8_asked_X8_costNow : GoodIn wsX8_asked (wsV RX8 240 RX8 yX8_costNow wsX8_costNow) := goodIn_app (goodIn_of _ (by decide +kernel)) ggX8_asked_X8_costNow
theorem dX8_asked_0 : decode cX8_asked 0 = .ok (.aload_n 0, 1) := by decide +kernel
theorem dX8_asked_1 : decode cX8_asked 1 = .ok (.iload_n 1, 1) := by decide +kernel
theorem dX8_asked_2 : decode cX8_asked 2 = .ok (.iconst 0, 1) := by decide +kernel
theorem dX8_asked_3 : decode cX8_asked 3 = .ok (.aload_n 0, 1) := by decide +kernel
theorem dX8_asked_4 : decode cX8_asked 4 = .ok (.getfield 7, 3) := by decide +kernel
theorem dX8_asked_7 : decode cX8_asked 7 = .ok (.bipush 19, 2) := by decide +kernel
theorem dX8_asked_9 : decode cX8_asked 9 = .ok (.iaload, 1) := by decide +kernel
theorem dX8_asked_10 : decode cX8_asked 10 = .ok (.iconst 1, 1) := by decide +kernel
theorem dX8_asked_11 : decode cX8_asked 11 = .ok (.isub, 1) := by decide +kernel
theorem dX8_asked_12 : decode cX8_asked 12 = .ok (.invokestatic 57, 3) := by decide +kernel
theorem dX8_asked_15 : decode cX8_asked 15 = .ok (.ifCond .ne 7, 3) := by decide +kernel
theorem dX8_asked_18 : decode cX8_asked 18 = .ok (.iconst 1, 1) := by decide +kernel
theorem dX8_asked_19 : decode cX8_asked 19 = .ok (.goto 17, 3) := by decide +kernel
theorem dX8_asked_22 : decode cX8_asked 22 = .ok (.iload_n 2, 1) := by decide +kernel
theorem dX8_asked_23 : decode cX8_asked 23 = .ok (.iconst 0, 1) := by decide +kernel
theorem dX8_asked_24 : decode cX8_asked 24 = .ok (.iconst 4, 1) := by decide +kernel
theorem dX8_asked_25 : decode cX8_asked 25 = .ok (.invokestatic 57, 3) := by decide +kernel
theorem dX8_asked_28 : decode cX8_asked 28 = .ok (.ifCond .eq 7, 3) := by decide +kernel
theorem dX8_asked_31 : decode cX8_asked 31 = .ok (.iconst 0, 1) := by decide +kernel
theorem dX8_asked_32 : decode cX8_asked 32 = .ok (.goto 4, 3) := by decide +kernel
theorem dX8_asked_35 : decode cX8_asked 35 = .ok (.iconst 2, 1) := by decide +kernel
theorem dX8_asked_36 : decode cX8_asked 36 = .ok (.putfield 45, 3) := by decide +kernel
theorem dX8_asked_39 : decode cX8_asked 39 = .ok (.aload_n 0, 1) := by decide +kernel
theorem dX8_asked_40 : decode cX8_asked 40 = .ok (.getfield 45, 3) := by decide +kernel
theorem dX8_asked_43 : decode cX8_asked 43 = .ok (.ifCond .le 5, 3) := by decide +kernel
theorem dX8_asked_46 : decode cX8_asked 46 = .ok (.iconst 0, 1) := by decide +kernel
theorem dX8_asked_47 : decode cX8_asked 47 = .ok (.ireturn, 1) := by decide +kernel
theorem dX8_asked_48 : decode cX8_asked 48 = .ok (.iload_n 2, 1) := by decide +kernel
theorem dX8_asked_49 : decode cX8_asked 49 = .ok (.iconst 4, 1) := by decide +kernel
theorem dX8_asked_50 : decode cX8_asked 50 = .ok (.if_icmp .ge 12, 3) := by decide +kernel
theorem dX8_asked_53 : decode cX8_asked 53 = .ok (.aload_n 0, 1) := by decide +kernel
theorem dX8_asked_54 : decode cX8_asked 54 = .ok (.iload_n 1, 1) := by decide +kernel
theorem dX8_asked_55 : decode cX8_asked 55 = .ok (.iload_n 2, 1) := by decide +kernel
theorem dX8_asked_56 : decode cX8_asked 56 = .ok (.invokevirtual 243, 3) := by decide +kernel
theorem dX8_asked_59 : decode cX8_asked 59 = .ok (.goto 26, 3) := by decide +kernel
theorem dX8_asked_62 : decode cX8_asked 62 = .ok (.aload_n 0, 1) := by decide +kernel
theorem dX8_asked_63 : decode cX8_asked 63 = .ok (.aload_n 0, 1) := by decide +kernel
theorem dX8_asked_64 : decode cX8_asked 64 = .ok (.iload_n 1, 1) := by decide +kernel
theorem dX8_asked_65 : decode cX8_asked 65 = .ok (.iconst 0, 1) := by decide +kernel
theorem dX8_asked_66 : decode cX8_asked 66 = .ok (.invokevirtual 243, 3) := by decide +kernel
theorem dX8_asked_69 : decode cX8_asked 69 = .ok (.aload_n 0, 1) := by decide +kernel
theorem dX8_asked_70 : decode cX8_asked 70 = .ok (.iload_n 1, 1) := by decide +kernel
theorem dX8_asked_71 : decode cX8_asked 71 = .ok (.iconst 1, 1) := by decide +kernel
theorem dX8_asked_72 : decode cX8_asked 72 = .ok (.invokevirtual 243, 3) := by decide +kernel
theorem dX8_asked_75 : decode cX8_asked 75 = .ok (.invokevirtual 240, 3) := by decide +kernel
theorem dX8_asked_78 : decode cX8_asked 78 = .ok (.aload_n 0, 1) := by decide +kernel
theorem dX8_asked_79 : decode cX8_asked 79 = .ok (.iload_n 1, 1) := by decide +kernel
theorem dX8_asked_80 : decode cX8_asked 80 = .ok (.iconst 3, 1) := by decide +kernel
theorem dX8_asked_81 : decode cX8_asked 81 = .ok (.invokevirtual 243, 3) := by decide +kernel
theorem dX8_asked_84 : decode cX8_asked 84 = .ok (.isub, 1) := by decide +kernel
theorem dX8_asked_85 : decode cX8_asked 85 = .ok (.ireturn, 1) := by decide +kernel
set_option maxRecDepth 20000 in
theorem ggX8_nearest_X8_isSpan : GoodIn wsX8_nearest wsX8_isSpan := goodIn_r _ [6, 7, 8, 5, 9] (by decide +kernel) (by decide +kernel)
set_option maxRecDepth 20000 in
theorem gX8_nearest_X8_isSpan : GoodIn wsX8_nearest (va_wsS RX8 231 yX8_isSpan wsX8_isSpan) := goodIn_app (goodIn_of _ (by decide +kernel)) ggX8_nearest_X8_isSpan
set_option maxRecDepth 20000 in
theorem ggX8_nearest_X8_askedOf : GoodIn wsX8_nearest wsX8_askedOf := goodIn_r _ [13, 2, 14, 15, 16, 17, 18, 19, 20, 21, 22, 23, 24, 25, 26, 27, 28, 29, 30, 31, 32, 33] (by decide +kernel) (by decide +kernel)
set_option maxRecDepth 20000 in
theorem gX8_nearest_X8_askedOf : GoodIn wsX8_nearest (wsV RX8 243 RX8 yX8_askedOf wsX8_askedOf) := goodIn_app (goodIn_of _ (by decide +kernel)) ggX8_nearest_X8_askedOf
theorem dX8_nearest_0 : decode cX8_nearest 0 = .ok (.aload_n 0, 1) := by decide +kernel
theorem dX8_nearest_1 : decode cX8_nearest 1 = .ok (.iload_n 1, 1) := by decide +kernel
theorem dX8_nearest_2 : decode cX8_nearest 2 = .ok (.iload_n 2, 1) := by decide +kernel
theorem dX8_nearest_3 : decode cX8_nearest 3 = .ok (.invokestatic 231, 3) := by decide +kernel
theorem dX8_nearest_6 : decode cX8_nearest 6 = .ok (.ifCond .eq 7, 3) := by decide +kernel
theorem dX8_nearest_9 : decode cX8_nearest 9 = .ok (.iconst 0, 1) := by decide +kernel
theorem dX8_nearest_10 : decode cX8_nearest 10 = .ok (.goto 4, 3) := by decide +kernel
theorem dX8_nearest_13 : decode cX8_nearest 13 = .ok (.iconst 1, 1) := by decide +kernel
theorem dX8_nearest_14 : decode cX8_nearest 14 = .ok (.putfield 45, 3) := by decide +kernel
theorem dX8_nearest_17 : decode cX8_nearest 17 = .ok (.iconst (-1), 1) := by decide +kernel
theorem dX8_nearest_18 : decode cX8_nearest 18 = .ok (.istore_n 3, 1) := by decide +kernel
theorem dX8_nearest_19 : decode cX8_nearest 19 = .ok (.iconst 0, 1) := by decide +kernel
theorem dX8_nearest_20 : decode cX8_nearest 20 = .ok (.istore 4, 2) := by decide +kernel
theorem dX8_nearest_22 : decode cX8_nearest 22 = .ok (.iconst 0, 1) := by decide +kernel
theorem dX8_nearest_23 : decode cX8_nearest 23 = .ok (.istore 5, 2) := by decide +kernel
theorem dX8_nearest_25 : decode cX8_nearest 25 = .ok (.iload 5, 2) := by decide +kernel
theorem dX8_nearest_27 : decode cX8_nearest 27 = .ok (.aload_n 0, 1) := by decide +kernel
theorem dX8_nearest_28 : decode cX8_nearest 28 = .ok (.getfield 7, 3) := by decide +kernel
theorem dX8_nearest_31 : decode cX8_nearest 31 = .ok (.bipush 19, 2) := by decide +kernel
theorem dX8_nearest_33 : decode cX8_nearest 33 = .ok (.iaload, 1) := by decide +kernel
theorem dX8_nearest_34 : decode cX8_nearest 34 = .ok (.if_icmp .ge 87, 3) := by decide +kernel
theorem dX8_nearest_37 : decode cX8_nearest 37 = .ok (.aload_n 0, 1) := by decide +kernel
theorem dX8_nearest_38 : decode cX8_nearest 38 = .ok (.getfield 45, 3) := by decide +kernel
theorem dX8_nearest_41 : decode cX8_nearest 41 = .ok (.ifCond .ne 80, 3) := by decide +kernel
theorem dX8_nearest_44 : decode cX8_nearest 44 = .ok (.aload_n 0, 1) := by decide +kernel
theorem dX8_nearest_45 : decode cX8_nearest 45 = .ok (.iload 5, 2) := by decide +kernel
theorem dX8_nearest_47 : decode cX8_nearest 47 = .ok (.iconst 0, 1) := by decide +kernel
theorem dX8_nearest_48 : decode cX8_nearest 48 = .ok (.invokevirtual 243, 3) := by decide +kernel
theorem dX8_nearest_51 : decode cX8_nearest 51 = .ok (.iload_n 1, 1) := by decide +kernel
theorem dX8_nearest_52 : decode cX8_nearest 52 = .ok (.if_icmp .le 13, 3) := by decide +kernel
theorem dX8_nearest_55 : decode cX8_nearest 55 = .ok (.aload_n 0, 1) := by decide +kernel
theorem dX8_nearest_56 : decode cX8_nearest 56 = .ok (.iload 5, 2) := by decide +kernel
theorem dX8_nearest_58 : decode cX8_nearest 58 = .ok (.iconst 0, 1) := by decide +kernel
theorem dX8_nearest_59 : decode cX8_nearest 59 = .ok (.invokevirtual 243, 3) := by decide +kernel
theorem dX8_nearest_62 : decode cX8_nearest 62 = .ok (.goto 4, 3) := by decide +kernel
theorem dX8_nearest_65 : decode cX8_nearest 65 = .ok (.iload_n 1, 1) := by decide +kernel
theorem dX8_nearest_66 : decode cX8_nearest 66 = .ok (.istore 6, 2) := by decide +kernel
theorem dX8_nearest_68 : decode cX8_nearest 68 = .ok (.aload_n 0, 1) := by decide +kernel
theorem dX8_nearest_69 : decode cX8_nearest 69 = .ok (.iload 5, 2) := by decide +kernel
theorem dX8_nearest_71 : decode cX8_nearest 71 = .ok (.iconst 1, 1) := by decide +kernel
theorem dX8_nearest_72 : decode cX8_nearest 72 = .ok (.invokevirtual 243, 3) := by decide +kernel
theorem dX8_nearest_75 : decode cX8_nearest 75 = .ok (.iload_n 2, 1) := by decide +kernel
theorem dX8_nearest_76 : decode cX8_nearest 76 = .ok (.if_icmp .ge 13, 3) := by decide +kernel
theorem dX8_nearest_79 : decode cX8_nearest 79 = .ok (.aload_n 0, 1) := by decide +kernel
theorem dX8_nearest_80 : decode cX8_nearest 80 = .ok (.iload 5, 2) := by decide +kernel
theorem dX8_nearest_82 : decode cX8_nearest 82 = .ok (.iconst 1, 1) := by decide +kernel
theorem dX8_nearest_83 : decode cX8_nearest 83 = .ok (.invokevirtual 243, 3) := by decide +kernel
theorem dX8_nearest_86 : decode cX8_nearest 86 = .ok (.goto 4, 3) := by decide +kernel
theorem dX8_nearest_89 : decode cX8_nearest 89 = .ok (.iload_n 2, 1) := by decide +kernel
theorem dX8_nearest_90 : decode cX8_nearest 90 = .ok (.istore 7, 2) := by decide +kernel
theorem dX8_nearest_92 : decode cX8_nearest 92 = .ok (.iload 7, 2) := by decide +kernel
theorem dX8_nearest_94 : decode cX8_nearest 94 = .ok (.iload 6, 2) := by decide +kernel
theorem dX8_nearest_96 : decode cX8_nearest 96 = .ok (.isub, 1) := by decide +kernel
theorem dX8_nearest_97 : decode cX8_nearest 97 = .ok (.iload 4, 2) := by decide +kernel
theorem dX8_nearest_99 : decode cX8_nearest 99 = .ok (.if_icmp .gt 6, 3) := by decide +kernel
theorem dX8_nearest_102 : decode cX8_nearest 102 = .ok (.goto 13, 3) := by decide +kernel
theorem dX8_nearest_105 : decode cX8_nearest 105 = .ok (.iload 5, 2) := by decide +kernel
theorem dX8_nearest_107 : decode cX8_nearest 107 = .ok (.istore_n 3, 1) := by decide +kernel
theorem dX8_nearest_108 : decode cX8_nearest 108 = .ok (.iload 7, 2) := by decide +kernel
theorem dX8_nearest_110 : decode cX8_nearest 110 = .ok (.iload 6, 2) := by decide +kernel
theorem dX8_nearest_112 : decode cX8_nearest 112 = .ok (.isub, 1) := by decide +kernel
theorem dX8_nearest_113 : decode cX8_nearest 113 = .ok (.istore 4, 2) := by decide +kernel
theorem dX8_nearest_115 : decode cX8_nearest 115 = .ok (.iinc 5 1, 3) := by decide +kernel
theorem dX8_nearest_118 : decode cX8_nearest 118 = .ok (.goto (-93), 3) := by decide +kernel
theorem dX8_nearest_121 : decode cX8_nearest 121 = .ok (.aload_n 0, 1) := by decide +kernel
theorem dX8_nearest_122 : decode cX8_nearest 122 = .ok (.getfield 45, 3) := by decide +kernel
theorem dX8_nearest_125 : decode cX8_nearest 125 = .ok (.ifCond .le 7, 3) := by decide +kernel
theorem dX8_nearest_128 : decode cX8_nearest 128 = .ok (.iconst 0, 1) := by decide +kernel
theorem dX8_nearest_129 : decode cX8_nearest 129 = .ok (.goto 4, 3) := by decide +kernel
theorem dX8_nearest_132 : decode cX8_nearest 132 = .ok (.iload_n 3, 1) := by decide +kernel
theorem dX8_nearest_133 : decode cX8_nearest 133 = .ok (.ireturn, 1) := by decide +kernel
set_option maxRecDepth 20000 in
theorem ggX8_scans_X8_lives : GoodIn wsX8_scans wsX8_lives := goodIn_r _ [6, 1, 10, 11, 12, 13, 14, 15, 16, 17, 18, 19, 20, 21, 22, 23, 24, 25, 26, 27, 28, 29] (by decide +kernel) (by decide +kernel)
set_option maxRecDepth 20000 in
theorem gX8_scans_X8_lives : GoodIn wsX8_scans (wsV RX8 198 RX8 yX8_lives wsX8_lives) := goodIn_app (goodIn_of _ (by decide +kernel)) ggX8_scans_X8_lives
set_option maxRecDepth 20000 in
theorem ggX8_scans_X8_isIn : GoodIn wsX8_scans wsX8_isIn := goodIn_r _ [9] (by decide +kernel) (by decide +kernel)
set_option maxRecDepth 20000 in
theorem gX8_scans_X8_isIn : GoodIn wsX8_scans (va_wsS RX8 57 yX8_isIn wsX8_isIn) := goodIn_app (goodIn_of _ (by decide +kernel)) ggX8_scans_X8_isIn
theorem dX8_scans_0 : decode cX8_scans 0 = .ok (.iconst 0, 1) := by decide +kernel
theorem dX8_scans_1 : decode cX8_scans 1 = .ok (.istore 4, 2) := by decide +kernel
theorem dX8_scans_3 : decode cX8_scans 3 = .ok (.iconst 0, 1) := by decide +kernel
theorem dX8_scans_4 : decode cX8_scans 4 = .ok (.istore 5, 2) := by decide +kernel
theorem dX8_scans_6 : decode cX8_scans 6 = .ok (.iconst (-1), 1) := by decide +kernel
theorem dX8_scans_7 : decode cX8_scans 7 = .ok (.istore 6, 2) := by decide +kernel
theorem dX8_scans_9 : decode cX8_scans 9 = .ok (.iconst (-1), 1) := by decide +kernel
theorem dX8_scans_10 : decode cX8_scans 10 = .ok (.istore 7, 2) := by decide +kernel
theorem dX8_scans_12 : decode cX8_scans 12 = .ok (.iconst 0, 1) := by decide +kernel
theorem dX8_scans_13 : decode cX8_scans 13 = .ok (.istore 8, 2) := by decide +kernel
theorem dX8_scans_15 : decode cX8_scans 15 = .ok (.iload 8, 2) := by decide +kernel
theorem dX8_scans_17 : decode cX8_scans 17 = .ok (.aload_n 0, 1) := by decide +kernel
theorem dX8_scans_18 : decode cX8_scans 18 = .ok (.getfield 7, 3) := by decide +kernel
theorem dX8_scans_21 : decode cX8_scans 21 = .ok (.iconst 0, 1) := by decide +kernel
theorem dX8_scans_22 : decode cX8_scans 22 = .ok (.iaload, 1) := by decide +kernel
theorem dX8_scans_23 : decode cX8_scans 23 = .ok (.if_icmp .ge 102, 3) := by decide +kernel
theorem dX8_scans_26 : decode cX8_scans 26 = .ok (.aload_n 0, 1) := by decide +kernel
theorem dX8_scans_27 : decode cX8_scans 27 = .ok (.getfield 7, 3) := by decide +kernel
theorem dX8_scans_30 : decode cX8_scans 30 = .ok (.bipush 20, 2) := by decide +kernel
theorem dX8_scans_32 : decode cX8_scans 32 = .ok (.iload 8, 2) := by decide +kernel
theorem dX8_scans_34 : decode cX8_scans 34 = .ok (.iadd, 1) := by decide +kernel
theorem dX8_scans_35 : decode cX8_scans 35 = .ok (.iaload, 1) := by decide +kernel
theorem dX8_scans_36 : decode cX8_scans 36 = .ok (.istore 9, 2) := by decide +kernel
theorem dX8_scans_38 : decode cX8_scans 38 = .ok (.aload_n 0, 1) := by decide +kernel
theorem dX8_scans_39 : decode cX8_scans 39 = .ok (.iload 8, 2) := by decide +kernel
theorem dX8_scans_41 : decode cX8_scans 41 = .ok (.invokevirtual 198, 3) := by decide +kernel
theorem dX8_scans_44 : decode cX8_scans 44 = .ok (.ifCond .eq 75, 3) := by decide +kernel
theorem dX8_scans_47 : decode cX8_scans 47 = .ok (.iload 9, 2) := by decide +kernel
theorem dX8_scans_49 : decode cX8_scans 49 = .ok (.iload_n 1, 1) := by decide +kernel
theorem dX8_scans_50 : decode cX8_scans 50 = .ok (.iload_n 2, 1) := by decide +kernel
theorem dX8_scans_51 : decode cX8_scans 51 = .ok (.iconst 1, 1) := by decide +kernel
theorem dX8_scans_52 : decode cX8_scans 52 = .ok (.isub, 1) := by decide +kernel
theorem dX8_scans_53 : decode cX8_scans 53 = .ok (.invokestatic 57, 3) := by decide +kernel
theorem dX8_scans_56 : decode cX8_scans 56 = .ok (.ifCond .ne 6, 3) := by decide +kernel
theorem dX8_scans_59 : decode cX8_scans 59 = .ok (.goto 60, 3) := by decide +kernel
theorem dX8_scans_62 : decode cX8_scans 62 = .ok (.iinc 4 1, 3) := by decide +kernel
theorem dX8_scans_65 : decode cX8_scans 65 = .ok (.iload 5, 2) := by decide +kernel
theorem dX8_scans_67 : decode cX8_scans 67 = .ok (.aload_n 0, 1) := by decide +kernel
theorem dX8_scans_68 : decode cX8_scans 68 = .ok (.getfield 7, 3) := by decide +kernel
theorem dX8_scans_71 : decode cX8_scans 71 = .ok (.sipush 140, 3) := by decide +kernel
theorem dX8_scans_74 : decode cX8_scans 74 = .ok (.iload 8, 2) := by decide +kernel
theorem dX8_scans_76 : decode cX8_scans 76 = .ok (.iadd, 1) := by decide +kernel
theorem dX8_scans_77 : decode cX8_scans 77 = .ok (.iaload, 1) := by decide +kernel
theorem dX8_scans_78 : decode cX8_scans 78 = .ok (.iadd, 1) := by decide +kernel
theorem dX8_scans_79 : decode cX8_scans 79 = .ok (.istore 5, 2) := by decide +kernel
theorem dX8_scans_81 : decode cX8_scans 81 = .ok (.iload 6, 2) := by decide +kernel
theorem dX8_scans_83 : decode cX8_scans 83 = .ok (.iconst (-1), 1) := by decide +kernel
theorem dX8_scans_84 : decode cX8_scans 84 = .ok (.if_icmp .eq 10, 3) := by decide +kernel
theorem dX8_scans_87 : decode cX8_scans 87 = .ok (.iload 9, 2) := by decide +kernel
theorem dX8_scans_89 : decode cX8_scans 89 = .ok (.iload 6, 2) := by decide +kernel
theorem dX8_scans_91 : decode cX8_scans 91 = .ok (.if_icmp .ge 8, 3) := by decide +kernel
theorem dX8_scans_94 : decode cX8_scans 94 = .ok (.iload 9, 2) := by decide +kernel
theorem dX8_scans_96 : decode cX8_scans 96 = .ok (.goto 5, 3) := by decide +kernel
theorem dX8_scans_99 : decode cX8_scans 99 = .ok (.iload 6, 2) := by decide +kernel
theorem dX8_scans_101 : decode cX8_scans 101 = .ok (.istore 6, 2) := by decide +kernel
theorem dX8_scans_103 : decode cX8_scans 103 = .ok (.iload 9, 2) := by decide +kernel
theorem dX8_scans_105 : decode cX8_scans 105 = .ok (.iload 7, 2) := by decide +kernel
theorem dX8_scans_107 : decode cX8_scans 107 = .ok (.if_icmp .le 8, 3) := by decide +kernel
theorem dX8_scans_110 : decode cX8_scans 110 = .ok (.iload 9, 2) := by decide +kernel
theorem dX8_scans_112 : decode cX8_scans 112 = .ok (.goto 5, 3) := by decide +kernel
theorem dX8_scans_115 : decode cX8_scans 115 = .ok (.iload 7, 2) := by decide +kernel
theorem dX8_scans_117 : decode cX8_scans 117 = .ok (.istore 7, 2) := by decide +kernel
theorem dX8_scans_119 : decode cX8_scans 119 = .ok (.iinc 8 1, 3) := by decide +kernel
theorem dX8_scans_122 : decode cX8_scans 122 = .ok (.goto (-107), 3) := by decide +kernel
theorem dX8_scans_125 : decode cX8_scans 125 = .ok (.iload_n 3, 1) := by decide +kernel
theorem dX8_scans_126 : decode cX8_scans 126 = .ok (.ifCond .ne 8, 3) := by decide +kernel
theorem dX8_scans_129 : decode cX8_scans 129 = .ok (.iload 4, 2) := by decide +kernel
theorem dX8_scans_131 : decode cX8_scans 131 = .ok (.goto 25, 3) := by decide +kernel
theorem dX8_scans_134 : decode cX8_scans 134 = .ok (.iload_n 3, 1) := by decide +kernel
theorem dX8_scans_135 : decode cX8_scans 135 = .ok (.iconst 1, 1) := by decide +kernel
theorem dX8_scans_136 : decode cX8_scans 136 = .ok (.if_icmp .ne 8, 3) := by decide +kernel
theorem dX8_scans_139 : decode cX8_scans 139 = .ok (.iload 5, 2) := by decide +kernel
theorem dX8_scans_141 : decode cX8_scans 141 = .ok (.goto 15, 3) := by decide +kernel
theorem dX8_scans_144 : decode cX8_scans 144 = .ok (.iload_n 3, 1) := by decide +kernel
theorem dX8_scans_145 : decode cX8_scans 145 = .ok (.iconst 2, 1) := by decide +kernel
theorem dX8_scans_146 : decode cX8_scans 146 = .ok (.if_icmp .ne 8, 3) := by decide +kernel
theorem dX8_scans_149 : decode cX8_scans 149 = .ok (.iload 6, 2) := by decide +kernel
theorem dX8_scans_151 : decode cX8_scans 151 = .ok (.goto 5, 3) := by decide +kernel
theorem dX8_scans_154 : decode cX8_scans 154 = .ok (.iload 7, 2) := by decide +kernel
theorem dX8_scans_156 : decode cX8_scans 156 = .ok (.ireturn, 1) := by decide +kernel
set_option maxRecDepth 20000 in
theorem ggX8_scan_X8_isSpan : GoodIn wsX8_scan wsX8_isSpan := goodIn_r _ [5, 6, 7, 4, 8] (by decide +kernel) (by decide +kernel)
set_option maxRecDepth 20000 in
theorem gX8_scan_X8_isSpan : GoodIn wsX8_scan (va_wsS RX8 231 yX8_isSpan wsX8_isSpan) := goodIn_app (goodIn_of _ (by decide +kernel)) ggX8_scan_X8_isSpan
set_option maxRecDepth 20000 in
theorem ggX8_scan_X8_isIn : GoodIn wsX8_scan wsX8_isIn := goodIn_r _ [8] (by decide +kernel) (by decide +kernel)
set_option maxRecDepth 20000 in
theorem gX8_scan_X8_isIn : GoodIn wsX8_scan (va_wsS RX8 57 yX8_isIn wsX8_isIn) := goodIn_app (goodIn_of _ (by decide +kernel)) ggX8_scan_X8_isIn
set_option maxRecDepth 20000 in
theorem ggX8_scan_X8_scans : GoodIn wsX8_scan wsX8_scans := goodIn_r _ [12, 13, 14, 15, 16, 4, 17, 6, 7, 8, 18, 19, 20, 21, 22, 23, 24, 25, 26, 27, 28, 29, 30, 31, 32, 33, 34, 35, 36, 37] (by decide +kernel) (by decide +kernel)
set_option maxRecDepth 20000 in
theorem gX8_scan_X8_scans : GoodIn wsX8_scan (wsV RX8 246 RX8 yX8_scans wsX8_scans) := goodIn_app (goodIn_of _ (by decide +kernel)) ggX8_scan_X8_scans
theorem dX8_scan_0 : decode cX8_scan 0 = .ok (.aload_n 0, 1) := by decide +kernel
theorem dX8_scan_1 : decode cX8_scan 1 = .ok (.iload_n 1, 1) := by decide +kernel
theorem dX8_scan_2 : decode cX8_scan 2 = .ok (.iload_n 2, 1) := by decide +kernel
theorem dX8_scan_3 : decode cX8_scan 3 = .ok (.invokestatic 231, 3) := by decide +kernel
theorem dX8_scan_6 : decode cX8_scan 6 = .ok (.ifCond .eq 16, 3) := by decide +kernel
theorem dX8_scan_9 : decode cX8_scan 9 = .ok (.iload_n 3, 1) := by decide +kernel
theorem dX8_scan_10 : decode cX8_scan 10 = .ok (.iconst 0, 1) := by decide +kernel
theorem dX8_scan_11 : decode cX8_scan 11 = .ok (.iconst 3, 1) := by decide +kernel
theorem dX8_scan_12 : decode cX8_scan 12 = .ok (.invokestatic 57, 3) := by decide +kernel
theorem dX8_scan_15 : decode cX8_scan 15 = .ok (.ifCond .eq 7, 3) := by decide +kernel
theorem dX8_scan_18 : decode cX8_scan 18 = .ok (.iconst 0, 1) := by decide +kernel
theorem dX8_scan_19 : decode cX8_scan 19 = .ok (.goto 4, 3) := by decide +kernel
theorem dX8_scan_22 : decode cX8_scan 22 = .ok (.iconst 1, 1) := by decide +kernel
theorem dX8_scan_23 : decode cX8_scan 23 = .ok (.putfield 45, 3) := by decide +kernel
theorem dX8_scan_26 : decode cX8_scan 26 = .ok (.aload_n 0, 1) := by decide +kernel
theorem dX8_scan_27 : decode cX8_scan 27 = .ok (.getfield 45, 3) := by decide +kernel
theorem dX8_scan_30 : decode cX8_scan 30 = .ok (.ifCond .le 7, 3) := by decide +kernel
theorem dX8_scan_33 : decode cX8_scan 33 = .ok (.iconst 0, 1) := by decide +kernel
theorem dX8_scan_34 : decode cX8_scan 34 = .ok (.goto 10, 3) := by decide +kernel
theorem dX8_scan_37 : decode cX8_scan 37 = .ok (.aload_n 0, 1) := by decide +kernel
theorem dX8_scan_38 : decode cX8_scan 38 = .ok (.iload_n 1, 1) := by decide +kernel
theorem dX8_scan_39 : decode cX8_scan 39 = .ok (.iload_n 2, 1) := by decide +kernel
theorem dX8_scan_40 : decode cX8_scan 40 = .ok (.iload_n 3, 1) := by decide +kernel
theorem dX8_scan_41 : decode cX8_scan 41 = .ok (.invokevirtual 246, 3) := by decide +kernel
theorem dX8_scan_44 : decode cX8_scan 44 = .ok (.ireturn, 1) := by decide +kernel
set_option maxRecDepth 20000 in
theorem ggX8_mean_X8_isSpan : GoodIn wsX8_mean wsX8_isSpan := goodIn_r _ [5, 6, 7, 4, 8] (by decide +kernel) (by decide +kernel)
set_option maxRecDepth 20000 in
theorem gX8_mean_X8_isSpan : GoodIn wsX8_mean (va_wsS RX8 231 yX8_isSpan wsX8_isSpan) := goodIn_app (goodIn_of _ (by decide +kernel)) ggX8_mean_X8_isSpan
set_option maxRecDepth 20000 in
theorem ggX8_mean_X8_scans : GoodIn wsX8_mean wsX8_scans := goodIn_r _ [12, 13, 14, 15, 16, 4, 17, 6, 7, 8, 18, 19, 20, 21, 22, 23, 24, 25, 26, 27, 28, 29, 30, 31, 32, 33, 34, 35, 36, 37] (by decide +kernel) (by decide +kernel)
set_option maxRecDepth 20000 in
theorem gX8_mean_X8_scans : GoodIn wsX8_mean (wsV RX8 246 RX8 yX8_scans wsX8_scans) := goodIn_app (goodIn_of _ (by decide +kernel)) ggX8_mean_X8_scans
theorem dX8_mean_0 : decode cX8_mean 0 = .ok (.aload_n 0, 1) := by decide +kernel
theorem dX8_mean_1 : decode cX8_mean 1 = .ok (.iload_n 1, 1) := by decide +kernel
theorem dX8_mean_2 : decode cX8_mean 2 = .ok (.iload_n 2, 1) := by decide +kernel
theorem dX8_mean_3 : decode cX8_mean 3 = .ok (.invokestatic 231, 3) := by decide +kernel
theorem dX8_mean_6 : decode cX8_mean 6 = .ok (.ifCond .ne 7, 3) := by decide +kernel
theorem dX8_mean_9 : decode cX8_mean 9 = .ok (.iconst 1, 1) := by decide +kernel
theorem dX8_mean_10 : decode cX8_mean 10 = .ok (.goto 18, 3) := by decide +kernel
theorem dX8_mean_13 : decode cX8_mean 13 = .ok (.aload_n 0, 1) := by decide +kernel
theorem dX8_mean_14 : decode cX8_mean 14 = .ok (.iload_n 1, 1) := by decide +kernel
theorem dX8_mean_15 : decode cX8_mean 15 = .ok (.iload_n 2, 1) := by decide +kernel
theorem dX8_mean_16 : decode cX8_mean 16 = .ok (.iconst 0, 1) := by decide +kernel
theorem dX8_mean_17 : decode cX8_mean 17 = .ok (.invokevirtual 246, 3) := by decide +kernel
theorem dX8_mean_20 : decode cX8_mean 20 = .ok (.ifCond .ne 7, 3) := by decide +kernel
theorem dX8_mean_23 : decode cX8_mean 23 = .ok (.iconst 2, 1) := by decide +kernel
theorem dX8_mean_24 : decode cX8_mean 24 = .ok (.goto 4, 3) := by decide +kernel
theorem dX8_mean_27 : decode cX8_mean 27 = .ok (.iconst 0, 1) := by decide +kernel
theorem dX8_mean_28 : decode cX8_mean 28 = .ok (.putfield 45, 3) := by decide +kernel
theorem dX8_mean_31 : decode cX8_mean 31 = .ok (.aload_n 0, 1) := by decide +kernel
theorem dX8_mean_32 : decode cX8_mean 32 = .ok (.getfield 45, 3) := by decide +kernel
theorem dX8_mean_35 : decode cX8_mean 35 = .ok (.ifCond .le 7, 3) := by decide +kernel
theorem dX8_mean_38 : decode cX8_mean 38 = .ok (.fconst 0, 1) := by decide +kernel
theorem dX8_mean_39 : decode cX8_mean 39 = .ok (.goto 20, 3) := by decide +kernel
theorem dX8_mean_42 : decode cX8_mean 42 = .ok (.aload_n 0, 1) := by decide +kernel
theorem dX8_mean_43 : decode cX8_mean 43 = .ok (.iload_n 1, 1) := by decide +kernel
theorem dX8_mean_44 : decode cX8_mean 44 = .ok (.iload_n 2, 1) := by decide +kernel
theorem dX8_mean_45 : decode cX8_mean 45 = .ok (.iconst 1, 1) := by decide +kernel
theorem dX8_mean_46 : decode cX8_mean 46 = .ok (.invokevirtual 246, 3) := by decide +kernel
theorem dX8_mean_49 : decode cX8_mean 49 = .ok (.i2f, 1) := by decide +kernel
theorem dX8_mean_50 : decode cX8_mean 50 = .ok (.aload_n 0, 1) := by decide +kernel
theorem dX8_mean_51 : decode cX8_mean 51 = .ok (.iload_n 1, 1) := by decide +kernel
theorem dX8_mean_52 : decode cX8_mean 52 = .ok (.iload_n 2, 1) := by decide +kernel
theorem dX8_mean_53 : decode cX8_mean 53 = .ok (.iconst 0, 1) := by decide +kernel
theorem dX8_mean_54 : decode cX8_mean 54 = .ok (.invokevirtual 246, 3) := by decide +kernel
theorem dX8_mean_57 : decode cX8_mean 57 = .ok (.i2f, 1) := by decide +kernel
theorem dX8_mean_58 : decode cX8_mean 58 = .ok (.fdiv, 1) := by decide +kernel
theorem dX8_mean_59 : decode cX8_mean 59 = .ok (.freturn, 1) := by decide +kernel
set_option maxRecDepth 20000 in
theorem ggX8_ordered_X8_lives : GoodIn wsX8_ordered wsX8_lives := goodIn_r _ [7, 2, 12, 13, 14, 15, 16, 17, 18, 19, 20, 21, 22, 23, 24, 25, 26, 27, 28, 29, 30, 31] (by decide +kernel) (by decide +kernel)
set_option maxRecDepth 20000 in
theorem gX8_ordered_X8_lives : GoodIn wsX8_ordered (wsV RX8 198 RX8 yX8_lives wsX8_lives) := goodIn_app (goodIn_of _ (by decide +kernel)) ggX8_ordered_X8_lives
set_option maxRecDepth 20000 in
theorem ggX8_ordered_X8_isAhead : GoodIn wsX8_ordered wsX8_isAhead := goodIn_r _ [11, 2, 12, 13, 14, 15, 16, 17, 18, 19, 20, 21, 22, 23, 24, 25, 26, 27, 28, 29, 30, 31] (by decide +kernel) (by decide +kernel)
set_option maxRecDepth 20000 in
theorem gX8_ordered_X8_isAhead : GoodIn wsX8_ordered (wsV RX8 169 RX8 yX8_isAhead wsX8_isAhead) := goodIn_app (goodIn_of _ (by decide +kernel)) ggX8_ordered_X8_isAhead
theorem dX8_ordered_0 : decode cX8_ordered 0 = .ok (.aload_n 0, 1) := by decide +kernel
theorem dX8_ordered_1 : decode cX8_ordered 1 = .ok (.iconst 1, 1) := by decide +kernel
theorem dX8_ordered_2 : decode cX8_ordered 2 = .ok (.putfield 45, 3) := by decide +kernel
theorem dX8_ordered_5 : decode cX8_ordered 5 = .ok (.iconst 0, 1) := by decide +kernel
theorem dX8_ordered_6 : decode cX8_ordered 6 = .ok (.istore_n 2, 1) := by decide +kernel
theorem dX8_ordered_7 : decode cX8_ordered 7 = .ok (.iload_n 2, 1) := by decide +kernel
theorem dX8_ordered_8 : decode cX8_ordered 8 = .ok (.aload_n 0, 1) := by decide +kernel
theorem dX8_ordered_9 : decode cX8_ordered 9 = .ok (.getfield 7, 3) := by decide +kernel
theorem dX8_ordered_12 : decode cX8_ordered 12 = .ok (.iconst 0, 1) := by decide +kernel
theorem dX8_ordered_13 : decode cX8_ordered 13 = .ok (.iaload, 1) := by decide +kernel
theorem dX8_ordered_14 : decode cX8_ordered 14 = .ok (.if_icmp .ge 81, 3) := by decide +kernel
theorem dX8_ordered_17 : decode cX8_ordered 17 = .ok (.iconst 0, 1) := by decide +kernel
theorem dX8_ordered_18 : decode cX8_ordered 18 = .ok (.istore_n 3, 1) := by decide +kernel
theorem dX8_ordered_19 : decode cX8_ordered 19 = .ok (.iconst 0, 1) := by decide +kernel
theorem dX8_ordered_20 : decode cX8_ordered 20 = .ok (.istore 4, 2) := by decide +kernel
theorem dX8_ordered_22 : decode cX8_ordered 22 = .ok (.iload 4, 2) := by decide +kernel
theorem dX8_ordered_24 : decode cX8_ordered 24 = .ok (.aload_n 0, 1) := by decide +kernel
theorem dX8_ordered_25 : decode cX8_ordered 25 = .ok (.getfield 7, 3) := by decide +kernel
theorem dX8_ordered_28 : decode cX8_ordered 28 = .ok (.iconst 0, 1) := by decide +kernel
theorem dX8_ordered_29 : decode cX8_ordered 29 = .ok (.iaload, 1) := by decide +kernel
theorem dX8_ordered_30 : decode cX8_ordered 30 = .ok (.if_icmp .ge 36, 3) := by decide +kernel
theorem dX8_ordered_33 : decode cX8_ordered 33 = .ok (.iload_n 3, 1) := by decide +kernel
theorem dX8_ordered_34 : decode cX8_ordered 34 = .ok (.aload_n 0, 1) := by decide +kernel
theorem dX8_ordered_35 : decode cX8_ordered 35 = .ok (.iload 4, 2) := by decide +kernel
theorem dX8_ordered_37 : decode cX8_ordered 37 = .ok (.invokevirtual 198, 3) := by decide +kernel
theorem dX8_ordered_40 : decode cX8_ordered 40 = .ok (.ifCond .eq 17, 3) := by decide +kernel
theorem dX8_ordered_43 : decode cX8_ordered 43 = .ok (.aload_n 0, 1) := by decide +kernel
theorem dX8_ordered_44 : decode cX8_ordered 44 = .ok (.iload 4, 2) := by decide +kernel
theorem dX8_ordered_46 : decode cX8_ordered 46 = .ok (.iload_n 2, 1) := by decide +kernel
theorem dX8_ordered_47 : decode cX8_ordered 47 = .ok (.invokevirtual 169, 3) := by decide +kernel
theorem dX8_ordered_50 : decode cX8_ordered 50 = .ok (.ifCond .eq 7, 3) := by decide +kernel
theorem dX8_ordered_53 : decode cX8_ordered 53 = .ok (.iconst 1, 1) := by decide +kernel
theorem dX8_ordered_54 : decode cX8_ordered 54 = .ok (.goto 4, 3) := by decide +kernel
theorem dX8_ordered_57 : decode cX8_ordered 57 = .ok (.iconst 0, 1) := by decide +kernel
theorem dX8_ordered_58 : decode cX8_ordered 58 = .ok (.iadd, 1) := by decide +kernel
theorem dX8_ordered_59 : decode cX8_ordered 59 = .ok (.istore_n 3, 1) := by decide +kernel
theorem dX8_ordered_60 : decode cX8_ordered 60 = .ok (.iinc 4 1, 3) := by decide +kernel
theorem dX8_ordered_63 : decode cX8_ordered 63 = .ok (.goto (-41), 3) := by decide +kernel
theorem dX8_ordered_66 : decode cX8_ordered 66 = .ok (.aload_n 0, 1) := by decide +kernel
theorem dX8_ordered_67 : decode cX8_ordered 67 = .ok (.iload_n 2, 1) := by decide +kernel
theorem dX8_ordered_68 : decode cX8_ordered 68 = .ok (.invokevirtual 198, 3) := by decide +kernel
theorem dX8_ordered_71 : decode cX8_ordered 71 = .ok (.ifCond .eq 18, 3) := by decide +kernel
theorem dX8_ordered_74 : decode cX8_ordered 74 = .ok (.iload_n 3, 1) := by decide +kernel
theorem dX8_ordered_75 : decode cX8_ordered 75 = .ok (.iload_n 1, 1) := by decide +kernel
theorem dX8_ordered_76 : decode cX8_ordered 76 = .ok (.if_icmp .eq 6, 3) := by decide +kernel
theorem dX8_ordered_79 : decode cX8_ordered 79 = .ok (.goto 10, 3) := by decide +kernel
theorem dX8_ordered_82 : decode cX8_ordered 82 = .ok (.aload_n 0, 1) := by decide +kernel
theorem dX8_ordered_83 : decode cX8_ordered 83 = .ok (.iconst 0, 1) := by decide +kernel
theorem dX8_ordered_84 : decode cX8_ordered 84 = .ok (.putfield 45, 3) := by decide +kernel
theorem dX8_ordered_87 : decode cX8_ordered 87 = .ok (.iload_n 2, 1) := by decide +kernel
theorem dX8_ordered_88 : decode cX8_ordered 88 = .ok (.ireturn, 1) := by decide +kernel
theorem dX8_ordered_89 : decode cX8_ordered 89 = .ok (.iinc 2 1, 3) := by decide +kernel
theorem dX8_ordered_92 : decode cX8_ordered 92 = .ok (.goto (-85), 3) := by decide +kernel
theorem dX8_ordered_95 : decode cX8_ordered 95 = .ok (.iconst 0, 1) := by decide +kernel
theorem dX8_ordered_96 : decode cX8_ordered 96 = .ok (.ireturn, 1) := by decide +kernel
set_option maxRecDepth 20000 in
theorem ggX8_living_X8_lives : GoodIn wsX8_living wsX8_lives := goodIn_r _ [6, 1, 7, 8, 9, 10, 11, 12, 13, 14, 15, 16, 17, 18, 19, 20, 21, 22, 23, 24, 25, 26] (by decide +kernel) (by decide +kernel)
set_option maxRecDepth 20000 in
theorem gX8_living_X8_lives : GoodIn wsX8_living (wsV RX8 198 RX8 yX8_lives wsX8_lives) := goodIn_app (goodIn_of _ (by decide +kernel)) ggX8_living_X8_lives
theorem dX8_living_0 : decode cX8_living 0 = .ok (.iconst 0, 1) := by decide +kernel
theorem dX8_living_1 : decode cX8_living 1 = .ok (.istore_n 1, 1) := by decide +kernel
theorem dX8_living_2 : decode cX8_living 2 = .ok (.iconst 0, 1) := by decide +kernel
theorem dX8_living_3 : decode cX8_living 3 = .ok (.istore_n 2, 1) := by decide +kernel
theorem dX8_living_4 : decode cX8_living 4 = .ok (.iload_n 2, 1) := by decide +kernel
theorem dX8_living_5 : decode cX8_living 5 = .ok (.aload_n 0, 1) := by decide +kernel
theorem dX8_living_6 : decode cX8_living 6 = .ok (.getfield 7, 3) := by decide +kernel
theorem dX8_living_9 : decode cX8_living 9 = .ok (.iconst 0, 1) := by decide +kernel
theorem dX8_living_10 : decode cX8_living 10 = .ok (.iaload, 1) := by decide +kernel
theorem dX8_living_11 : decode cX8_living 11 = .ok (.if_icmp .ge 25, 3) := by decide +kernel
theorem dX8_living_14 : decode cX8_living 14 = .ok (.iload_n 1, 1) := by decide +kernel
theorem dX8_living_15 : decode cX8_living 15 = .ok (.aload_n 0, 1) := by decide +kernel
theorem dX8_living_16 : decode cX8_living 16 = .ok (.iload_n 2, 1) := by decide +kernel
theorem dX8_living_17 : decode cX8_living 17 = .ok (.invokevirtual 198, 3) := by decide +kernel
theorem dX8_living_20 : decode cX8_living 20 = .ok (.ifCond .eq 7, 3) := by decide +kernel
theorem dX8_living_23 : decode cX8_living 23 = .ok (.iconst 1, 1) := by decide +kernel
theorem dX8_living_24 : decode cX8_living 24 = .ok (.goto 4, 3) := by decide +kernel
theorem dX8_living_27 : decode cX8_living 27 = .ok (.iconst 0, 1) := by decide +kernel
theorem dX8_living_28 : decode cX8_living 28 = .ok (.iadd, 1) := by decide +kernel
theorem dX8_living_29 : decode cX8_living 29 = .ok (.istore_n 1, 1) := by decide +kernel
theorem dX8_living_30 : decode cX8_living 30 = .ok (.iinc 2 1, 3) := by decide +kernel
theorem dX8_living_33 : decode cX8_living 33 = .ok (.goto (-29), 3) := by decide +kernel
theorem dX8_living_36 : decode cX8_living 36 = .ok (.iload_n 1, 1) := by decide +kernel
theorem dX8_living_37 : decode cX8_living 37 = .ok (.ireturn, 1) := by decide +kernel
set_option maxRecDepth 20000 in
theorem ggX8_sortedPieces_X8_of : GoodIn wsX8_sortedPieces wsX8_of := goodIn_r _ [6, 1, 7, 8, 9, 10, 11, 12, 13, 14, 15, 16, 17, 18, 19, 20, 21, 22, 23, 24, 25, 26] (by decide +kernel) (by decide +kernel)
set_option maxRecDepth 20000 in
theorem gX8_sortedPieces_X8_of : GoodIn wsX8_sortedPieces (wsV RX8 150 RX8 yX8_of wsX8_of) := goodIn_app (goodIn_of _ (by decide +kernel)) ggX8_sortedPieces_X8_of
theorem dX8_sortedPieces_0 : decode cX8_sortedPieces 0 = .ok (.iconst 0, 1) := by decide +kernel
theorem dX8_sortedPieces_1 : decode cX8_sortedPieces 1 = .ok (.istore_n 1, 1) := by decide +kernel
theorem dX8_sortedPieces_2 : decode cX8_sortedPieces 2 = .ok (.iconst 0, 1) := by decide +kernel
theorem dX8_sortedPieces_3 : decode cX8_sortedPieces 3 = .ok (.istore_n 2, 1) := by decide +kernel
theorem dX8_sortedPieces_4 : decode cX8_sortedPieces 4 = .ok (.iload_n 2, 1) := by decide +kernel
theorem dX8_sortedPieces_5 : decode cX8_sortedPieces 5 = .ok (.aload_n 0, 1) := by decide +kernel
theorem dX8_sortedPieces_6 : decode cX8_sortedPieces 6 = .ok (.getfield 7, 3) := by decide +kernel
theorem dX8_sortedPieces_9 : decode cX8_sortedPieces 9 = .ok (.iconst 3, 1) := by decide +kernel
theorem dX8_sortedPieces_10 : decode cX8_sortedPieces 10 = .ok (.iaload, 1) := by decide +kernel
theorem dX8_sortedPieces_11 : decode cX8_sortedPieces 11 = .ok (.if_icmp .ge 18, 3) := by decide +kernel
theorem dX8_sortedPieces_14 : decode cX8_sortedPieces 14 = .ok (.iload_n 1, 1) := by decide +kernel
theorem dX8_sortedPieces_15 : decode cX8_sortedPieces 15 = .ok (.aload_n 0, 1) := by decide +kernel
theorem dX8_sortedPieces_16 : decode cX8_sortedPieces 16 = .ok (.iload_n 2, 1) := by decide +kernel
theorem dX8_sortedPieces_17 : decode cX8_sortedPieces 17 = .ok (.iconst 3, 1) := by decide +kernel
theorem dX8_sortedPieces_18 : decode cX8_sortedPieces 18 = .ok (.invokevirtual 150, 3) := by decide +kernel
theorem dX8_sortedPieces_21 : decode cX8_sortedPieces 21 = .ok (.iadd, 1) := by decide +kernel
theorem dX8_sortedPieces_22 : decode cX8_sortedPieces 22 = .ok (.istore_n 1, 1) := by decide +kernel
theorem dX8_sortedPieces_23 : decode cX8_sortedPieces 23 = .ok (.iinc 2 1, 3) := by decide +kernel
theorem dX8_sortedPieces_26 : decode cX8_sortedPieces 26 = .ok (.goto (-22), 3) := by decide +kernel
theorem dX8_sortedPieces_29 : decode cX8_sortedPieces 29 = .ok (.iload_n 1, 1) := by decide +kernel
theorem dX8_sortedPieces_30 : decode cX8_sortedPieces 30 = .ok (.ireturn, 1) := by decide +kernel
set_option maxRecDepth 20000 in
theorem ggX8_count_X8_isIn : GoodIn wsX8_count wsX8_isIn := goodIn_r _ [6] (by decide +kernel) (by decide +kernel)
set_option maxRecDepth 20000 in
theorem gX8_count_X8_isIn : GoodIn wsX8_count (va_wsS RX8 57 yX8_isIn wsX8_isIn) := goodIn_app (goodIn_of _ (by decide +kernel)) ggX8_count_X8_isIn
set_option maxRecDepth 20000 in
theorem ggX8_count_X8_living : GoodIn wsX8_count wsX8_living := goodIn_r _ [10, 2, 11, 12, 13, 5, 14, 23, 24, 25, 26, 27, 28, 29, 30, 31, 32, 33, 34, 35, 36, 37, 38, 39, 40, 41, 42] (by decide +kernel) (by decide +kernel)
set_option maxRecDepth 20000 in
theorem gX8_count_X8_living : GoodIn wsX8_count (wsV RX8 250 RX8 yX8_living wsX8_living) := goodIn_app (goodIn_of _ (by decide +kernel)) ggX8_count_X8_living
set_option maxRecDepth 20000 in
theorem ggX8_count_X8_sortedPieces : GoodIn wsX8_count wsX8_sortedPieces := goodIn_r _ [18, 2, 19, 20, 21, 5, 22, 23, 24, 25, 26, 27, 28, 29, 30, 31, 32, 33, 34, 35, 36, 37, 38, 39, 40, 41, 42] (by decide +kernel) (by decide +kernel)
set_option maxRecDepth 20000 in
theorem gX8_count_X8_sortedPieces : GoodIn wsX8_count (wsV RX8 253 RX8 yX8_sortedPieces wsX8_sortedPieces) := goodIn_app (goodIn_of _ (by decide +kernel)) ggX8_count_X8_sortedPieces
theorem dX8_count_0 : decode cX8_count 0 = .ok (.aload_n 0, 1) := by decide +kernel
theorem dX8_count_1 : decode cX8_count 1 = .ok (.iload_n 1, 1) := by decide +kernel
theorem dX8_count_2 : decode cX8_count 2 = .ok (.iconst 0, 1) := by decide +kernel
theorem dX8_count_3 : decode cX8_count 3 = .ok (.bipush 11, 2) := by decide +kernel
theorem dX8_count_5 : decode cX8_count 5 = .ok (.invokestatic 57, 3) := by decide +kernel
theorem dX8_count_8 : decode cX8_count 8 = .ok (.ifCond .eq 7, 3) := by decide +kernel
theorem dX8_count_11 : decode cX8_count 11 = .ok (.iconst 0, 1) := by decide +kernel
theorem dX8_count_12 : decode cX8_count 12 = .ok (.goto 4, 3) := by decide +kernel
theorem dX8_count_15 : decode cX8_count 15 = .ok (.iconst 1, 1) := by decide +kernel
theorem dX8_count_16 : decode cX8_count 16 = .ok (.putfield 45, 3) := by decide +kernel
theorem dX8_count_19 : decode cX8_count 19 = .ok (.aload_n 0, 1) := by decide +kernel
theorem dX8_count_20 : decode cX8_count 20 = .ok (.getfield 45, 3) := by decide +kernel
theorem dX8_count_23 : decode cX8_count 23 = .ok (.ifCond .le 5, 3) := by decide +kernel
theorem dX8_count_26 : decode cX8_count 26 = .ok (.iconst 0, 1) := by decide +kernel
theorem dX8_count_27 : decode cX8_count 27 = .ok (.ireturn, 1) := by decide +kernel
theorem dX8_count_28 : decode cX8_count 28 = .ok (.iload_n 1, 1) := by decide +kernel
theorem dX8_count_29 : decode cX8_count 29 = .ok (.tableswitch 109 0 11 #[63, 70, 75, 82, 89, 96, 109, 109, 109, 109, 109, 101], 63) := by decide +kernel
theorem dX8_count_92 : decode cX8_count 92 = .ok (.aload_n 0, 1) := by decide +kernel
theorem dX8_count_93 : decode cX8_count 93 = .ok (.getfield 7, 3) := by decide +kernel
theorem dX8_count_96 : decode cX8_count 96 = .ok (.iconst 0, 1) := by decide +kernel
theorem dX8_count_97 : decode cX8_count 97 = .ok (.iaload, 1) := by decide +kernel
theorem dX8_count_98 : decode cX8_count 98 = .ok (.ireturn, 1) := by decide +kernel
theorem dX8_count_99 : decode cX8_count 99 = .ok (.aload_n 0, 1) := by decide +kernel
theorem dX8_count_100 : decode cX8_count 100 = .ok (.invokevirtual 250, 3) := by decide +kernel
theorem dX8_count_103 : decode cX8_count 103 = .ok (.ireturn, 1) := by decide +kernel
theorem dX8_count_104 : decode cX8_count 104 = .ok (.aload_n 0, 1) := by decide +kernel
theorem dX8_count_105 : decode cX8_count 105 = .ok (.getfield 7, 3) := by decide +kernel
theorem dX8_count_108 : decode cX8_count 108 = .ok (.iconst 1, 1) := by decide +kernel
theorem dX8_count_109 : decode cX8_count 109 = .ok (.iaload, 1) := by decide +kernel
theorem dX8_count_110 : decode cX8_count 110 = .ok (.ireturn, 1) := by decide +kernel
theorem dX8_count_111 : decode cX8_count 111 = .ok (.aload_n 0, 1) := by decide +kernel
theorem dX8_count_112 : decode cX8_count 112 = .ok (.getfield 7, 3) := by decide +kernel
theorem dX8_count_115 : decode cX8_count 115 = .ok (.iconst 2, 1) := by decide +kernel
theorem dX8_count_116 : decode cX8_count 116 = .ok (.iaload, 1) := by decide +kernel
theorem dX8_count_117 : decode cX8_count 117 = .ok (.ireturn, 1) := by decide +kernel
theorem dX8_count_118 : decode cX8_count 118 = .ok (.aload_n 0, 1) := by decide +kernel
theorem dX8_count_119 : decode cX8_count 119 = .ok (.getfield 7, 3) := by decide +kernel
theorem dX8_count_122 : decode cX8_count 122 = .ok (.iconst 3, 1) := by decide +kernel
theorem dX8_count_123 : decode cX8_count 123 = .ok (.iaload, 1) := by decide +kernel
theorem dX8_count_124 : decode cX8_count 124 = .ok (.ireturn, 1) := by decide +kernel
theorem dX8_count_125 : decode cX8_count 125 = .ok (.aload_n 0, 1) := by decide +kernel
theorem dX8_count_126 : decode cX8_count 126 = .ok (.invokevirtual 253, 3) := by decide +kernel
theorem dX8_count_129 : decode cX8_count 129 = .ok (.ireturn, 1) := by decide +kernel
theorem dX8_count_130 : decode cX8_count 130 = .ok (.aload_n 0, 1) := by decide +kernel
theorem dX8_count_131 : decode cX8_count 131 = .ok (.getfield 7, 3) := by decide +kernel
theorem dX8_count_134 : decode cX8_count 134 = .ok (.bipush 19, 2) := by decide +kernel
theorem dX8_count_136 : decode cX8_count 136 = .ok (.iaload, 1) := by decide +kernel
theorem dX8_count_137 : decode cX8_count 137 = .ok (.ireturn, 1) := by decide +kernel
theorem dX8_count_138 : decode cX8_count 138 = .ok (.aload_n 0, 1) := by decide +kernel
theorem dX8_count_139 : decode cX8_count 139 = .ok (.getfield 7, 3) := by decide +kernel
theorem dX8_count_142 : decode cX8_count 142 = .ok (.iconst 4, 1) := by decide +kernel
theorem dX8_count_143 : decode cX8_count 143 = .ok (.iload_n 1, 1) := by decide +kernel
theorem dX8_count_144 : decode cX8_count 144 = .ok (.iadd, 1) := by decide +kernel
theorem dX8_count_145 : decode cX8_count 145 = .ok (.bipush 6, 2) := by decide +kernel
theorem dX8_count_147 : decode cX8_count 147 = .ok (.isub, 1) := by decide +kernel
theorem dX8_count_148 : decode cX8_count 148 = .ok (.iaload, 1) := by decide +kernel
theorem dX8_count_149 : decode cX8_count 149 = .ok (.ireturn, 1) := by decide +kernel
set_option maxRecDepth 20000 in
theorem ggX8_row_X8_isRow : GoodIn wsX8_row wsX8_isRow := goodIn_r _ [7, 2, 8, 9, 6, 10, 15, 16, 17, 18, 19, 20, 21, 22, 23, 24, 25, 26, 27, 28, 29, 30, 31, 32, 33, 34] (by decide +kernel) (by decide +kernel)
set_option maxRecDepth 20000 in
theorem gX8_row_X8_isRow : GoodIn wsX8_row (wsV RX8 195 RX8 yX8_isRow wsX8_isRow) := goodIn_app (goodIn_of _ (by decide +kernel)) ggX8_row_X8_isRow
set_option maxRecDepth 20000 in
theorem ggX8_row_X8_isIn : GoodIn wsX8_row wsX8_isIn := goodIn_r _ [10] (by decide +kernel) (by decide +kernel)
set_option maxRecDepth 20000 in
theorem gX8_row_X8_isIn : GoodIn wsX8_row (va_wsS RX8 57 yX8_isIn wsX8_isIn) := goodIn_app (goodIn_of _ (by decide +kernel)) ggX8_row_X8_isIn
set_option maxRecDepth 20000 in
theorem ggX8_row_X8_placeOf : GoodIn wsX8_row wsX8_placeOf := goodIn_r _ [14, 2, 15, 16, 17, 18, 19, 20, 21, 22, 23, 24, 25, 26, 27, 28, 29, 30, 31, 32, 33, 34] (by decide +kernel) (by decide +kernel)
set_option maxRecDepth 20000 in
theorem gX8_row_X8_placeOf : GoodIn wsX8_row (wsV RX8 173 RX8 yX8_placeOf wsX8_placeOf) := goodIn_app (goodIn_of _ (by decide +kernel)) ggX8_row_X8_placeOf
theorem dX8_row_0 : decode cX8_row 0 = .ok (.aload_n 0, 1) := by decide +kernel
theorem dX8_row_1 : decode cX8_row 1 = .ok (.aload_n 0, 1) := by decide +kernel
theorem dX8_row_2 : decode cX8_row 2 = .ok (.iload_n 1, 1) := by decide +kernel
theorem dX8_row_3 : decode cX8_row 3 = .ok (.invokevirtual 195, 3) := by decide +kernel
theorem dX8_row_6 : decode cX8_row 6 = .ok (.ifCond .ne 7, 3) := by decide +kernel
theorem dX8_row_9 : decode cX8_row 9 = .ok (.iconst 1, 1) := by decide +kernel
theorem dX8_row_10 : decode cX8_row 10 = .ok (.goto 17, 3) := by decide +kernel
theorem dX8_row_13 : decode cX8_row 13 = .ok (.iload_n 2, 1) := by decide +kernel
theorem dX8_row_14 : decode cX8_row 14 = .ok (.iconst 0, 1) := by decide +kernel
theorem dX8_row_15 : decode cX8_row 15 = .ok (.iconst 3, 1) := by decide +kernel
theorem dX8_row_16 : decode cX8_row 16 = .ok (.invokestatic 57, 3) := by decide +kernel
theorem dX8_row_19 : decode cX8_row 19 = .ok (.ifCond .eq 7, 3) := by decide +kernel
theorem dX8_row_22 : decode cX8_row 22 = .ok (.iconst 0, 1) := by decide +kernel
theorem dX8_row_23 : decode cX8_row 23 = .ok (.goto 4, 3) := by decide +kernel
theorem dX8_row_26 : decode cX8_row 26 = .ok (.iconst 2, 1) := by decide +kernel
theorem dX8_row_27 : decode cX8_row 27 = .ok (.putfield 45, 3) := by decide +kernel
theorem dX8_row_30 : decode cX8_row 30 = .ok (.aload_n 0, 1) := by decide +kernel
theorem dX8_row_31 : decode cX8_row 31 = .ok (.getfield 45, 3) := by decide +kernel
theorem dX8_row_34 : decode cX8_row 34 = .ok (.ifCond .le 5, 3) := by decide +kernel
theorem dX8_row_37 : decode cX8_row 37 = .ok (.iconst 0, 1) := by decide +kernel
theorem dX8_row_38 : decode cX8_row 38 = .ok (.ireturn, 1) := by decide +kernel
theorem dX8_row_39 : decode cX8_row 39 = .ok (.iload_n 2, 1) := by decide +kernel
theorem dX8_row_40 : decode cX8_row 40 = .ok (.ifCond .ne 15, 3) := by decide +kernel
theorem dX8_row_43 : decode cX8_row 43 = .ok (.aload_n 0, 1) := by decide +kernel
theorem dX8_row_44 : decode cX8_row 44 = .ok (.getfield 7, 3) := by decide +kernel
theorem dX8_row_47 : decode cX8_row 47 = .ok (.bipush 20, 2) := by decide +kernel
theorem dX8_row_49 : decode cX8_row 49 = .ok (.iload_n 1, 1) := by decide +kernel
theorem dX8_row_50 : decode cX8_row 50 = .ok (.iadd, 1) := by decide +kernel
theorem dX8_row_51 : decode cX8_row 51 = .ok (.iaload, 1) := by decide +kernel
theorem dX8_row_52 : decode cX8_row 52 = .ok (.goto 44, 3) := by decide +kernel
theorem dX8_row_55 : decode cX8_row 55 = .ok (.iload_n 2, 1) := by decide +kernel
theorem dX8_row_56 : decode cX8_row 56 = .ok (.iconst 1, 1) := by decide +kernel
theorem dX8_row_57 : decode cX8_row 57 = .ok (.if_icmp .ne 16, 3) := by decide +kernel
theorem dX8_row_60 : decode cX8_row 60 = .ok (.aload_n 0, 1) := by decide +kernel
theorem dX8_row_61 : decode cX8_row 61 = .ok (.getfield 7, 3) := by decide +kernel
theorem dX8_row_64 : decode cX8_row 64 = .ok (.sipush 140, 3) := by decide +kernel
theorem dX8_row_67 : decode cX8_row 67 = .ok (.iload_n 1, 1) := by decide +kernel
theorem dX8_row_68 : decode cX8_row 68 = .ok (.iadd, 1) := by decide +kernel
theorem dX8_row_69 : decode cX8_row 69 = .ok (.iaload, 1) := by decide +kernel
theorem dX8_row_70 : decode cX8_row 70 = .ok (.goto 26, 3) := by decide +kernel
theorem dX8_row_73 : decode cX8_row 73 = .ok (.iload_n 2, 1) := by decide +kernel
theorem dX8_row_74 : decode cX8_row 74 = .ok (.iconst 2, 1) := by decide +kernel
theorem dX8_row_75 : decode cX8_row 75 = .ok (.if_icmp .ne 16, 3) := by decide +kernel
theorem dX8_row_78 : decode cX8_row 78 = .ok (.aload_n 0, 1) := by decide +kernel
theorem dX8_row_79 : decode cX8_row 79 = .ok (.getfield 7, 3) := by decide +kernel
theorem dX8_row_82 : decode cX8_row 82 = .ok (.sipush 260, 3) := by decide +kernel
theorem dX8_row_85 : decode cX8_row 85 = .ok (.iload_n 1, 1) := by decide +kernel
theorem dX8_row_86 : decode cX8_row 86 = .ok (.iadd, 1) := by decide +kernel
theorem dX8_row_87 : decode cX8_row 87 = .ok (.iaload, 1) := by decide +kernel
theorem dX8_row_88 : decode cX8_row 88 = .ok (.goto 8, 3) := by decide +kernel
theorem dX8_row_91 : decode cX8_row 91 = .ok (.aload_n 0, 1) := by decide +kernel
theorem dX8_row_92 : decode cX8_row 92 = .ok (.iload_n 1, 1) := by decide +kernel
theorem dX8_row_93 : decode cX8_row 93 = .ok (.invokevirtual 173, 3) := by decide +kernel
theorem dX8_row_96 : decode cX8_row 96 = .ok (.ireturn, 1) := by decide +kernel
set_option maxRecDepth 20000 in
theorem ggX8_entry_X8_isIn : GoodIn wsX8_entry wsX8_isIn := goodIn_r _ [6] (by decide +kernel) (by decide +kernel)
set_option maxRecDepth 20000 in
theorem gX8_entry_X8_isIn : GoodIn wsX8_entry (va_wsS RX8 57 yX8_isIn wsX8_isIn) := goodIn_app (goodIn_of _ (by decide +kernel)) ggX8_entry_X8_isIn
theorem dX8_entry_0 : decode cX8_entry 0 = .ok (.aload_n 0, 1) := by decide +kernel
theorem dX8_entry_1 : decode cX8_entry 1 = .ok (.iload_n 1, 1) := by decide +kernel
theorem dX8_entry_2 : decode cX8_entry 2 = .ok (.iconst 0, 1) := by decide +kernel
theorem dX8_entry_3 : decode cX8_entry 3 = .ok (.aload_n 0, 1) := by decide +kernel
theorem dX8_entry_4 : decode cX8_entry 4 = .ok (.getfield 7, 3) := by decide +kernel
theorem dX8_entry_7 : decode cX8_entry 7 = .ok (.iconst 1, 1) := by decide +kernel
theorem dX8_entry_8 : decode cX8_entry 8 = .ok (.iaload, 1) := by decide +kernel
theorem dX8_entry_9 : decode cX8_entry 9 = .ok (.iconst 1, 1) := by decide +kernel
theorem dX8_entry_10 : decode cX8_entry 10 = .ok (.isub, 1) := by decide +kernel
theorem dX8_entry_11 : decode cX8_entry 11 = .ok (.invokestatic 57, 3) := by decide +kernel
theorem dX8_entry_14 : decode cX8_entry 14 = .ok (.ifCond .eq 7, 3) := by decide +kernel
theorem dX8_entry_17 : decode cX8_entry 17 = .ok (.iconst 0, 1) := by decide +kernel
theorem dX8_entry_18 : decode cX8_entry 18 = .ok (.goto 4, 3) := by decide +kernel
theorem dX8_entry_21 : decode cX8_entry 21 = .ok (.iconst 1, 1) := by decide +kernel
theorem dX8_entry_22 : decode cX8_entry 22 = .ok (.putfield 45, 3) := by decide +kernel
theorem dX8_entry_25 : decode cX8_entry 25 = .ok (.aload_n 0, 1) := by decide +kernel
theorem dX8_entry_26 : decode cX8_entry 26 = .ok (.getfield 45, 3) := by decide +kernel
theorem dX8_entry_29 : decode cX8_entry 29 = .ok (.ifCond .le 7, 3) := by decide +kernel
theorem dX8_entry_32 : decode cX8_entry 32 = .ok (.iconst 0, 1) := by decide +kernel
theorem dX8_entry_33 : decode cX8_entry 33 = .ok (.goto 13, 3) := by decide +kernel
theorem dX8_entry_36 : decode cX8_entry 36 = .ok (.aload_n 0, 1) := by decide +kernel
theorem dX8_entry_37 : decode cX8_entry 37 = .ok (.getfield 7, 3) := by decide +kernel
theorem dX8_entry_40 : decode cX8_entry 40 = .ok (.sipush 380, 3) := by decide +kernel
theorem dX8_entry_43 : decode cX8_entry 43 = .ok (.iload_n 1, 1) := by decide +kernel
theorem dX8_entry_44 : decode cX8_entry 44 = .ok (.iadd, 1) := by decide +kernel
theorem dX8_entry_45 : decode cX8_entry 45 = .ok (.iaload, 1) := by decide +kernel
theorem dX8_entry_46 : decode cX8_entry 46 = .ok (.ireturn, 1) := by decide +kernel
set_option maxRecDepth 20000 in
theorem ggX8_isPiece_X8_isIn : GoodIn wsX8_isPiece wsX8_isIn := goodIn_r _ [5] (by decide +kernel) (by decide +kernel)
set_option maxRecDepth 20000 in
theorem gX8_isPiece_X8_isIn : GoodIn wsX8_isPiece (va_wsS RX8 57 yX8_isIn wsX8_isIn) := goodIn_app (goodIn_of _ (by decide +kernel)) ggX8_isPiece_X8_isIn
theorem dX8_isPiece_0 : decode cX8_isPiece 0 = .ok (.iload_n 1, 1) := by decide +kernel
theorem dX8_isPiece_1 : decode cX8_isPiece 1 = .ok (.iconst 0, 1) := by decide +kernel
theorem dX8_isPiece_2 : decode cX8_isPiece 2 = .ok (.aload_n 0, 1) := by decide +kernel
theorem dX8_isPiece_3 : decode cX8_isPiece 3 = .ok (.getfield 7, 3) := by decide +kernel
theorem dX8_isPiece_6 : decode cX8_isPiece 6 = .ok (.iconst 3, 1) := by decide +kernel
theorem dX8_isPiece_7 : decode cX8_isPiece 7 = .ok (.iaload, 1) := by decide +kernel
theorem dX8_isPiece_8 : decode cX8_isPiece 8 = .ok (.iconst 1, 1) := by decide +kernel
theorem dX8_isPiece_9 : decode cX8_isPiece 9 = .ok (.isub, 1) := by decide +kernel
theorem dX8_isPiece_10 : decode cX8_isPiece 10 = .ok (.invokestatic 57, 3) := by decide +kernel
theorem dX8_isPiece_13 : decode cX8_isPiece 13 = .ok (.ireturn, 1) := by decide +kernel
set_option maxRecDepth 20000 in
theorem ggX8_falls_X8_firstPlace : GoodIn wsX8_falls wsX8_firstPlace := goodIn_r _ [5, 6, 7, 8, 4, 9, 10, 15, 16, 17, 18, 19, 20, 21, 22, 23, 24, 25, 26, 27, 28, 29, 30, 31, 32, 33, 34] (by decide +kernel) (by decide +kernel)
set_option maxRecDepth 20000 in
theorem gX8_falls_X8_firstPlace : GoodIn wsX8_falls (wsV RX8 156 RX8 yX8_firstPlace wsX8_firstPlace) := goodIn_app (goodIn_of _ (by decide +kernel)) ggX8_falls_X8_firstPlace
set_option maxRecDepth 20000 in
theorem ggX8_falls_X8_keyAt : GoodIn wsX8_falls wsX8_keyAt := goodIn_r _ [14, 10, 15, 16, 17, 18, 19, 20, 21, 22, 23, 24, 25, 26, 27, 28, 29, 30, 31, 32, 33, 34] (by decide +kernel) (by decide +kernel)
set_option maxRecDepth 20000 in
theorem gX8_falls_X8_keyAt : GoodIn wsX8_falls (wsV RX8 159 RX8 yX8_keyAt wsX8_keyAt) := goodIn_app (goodIn_of _ (by decide +kernel)) ggX8_falls_X8_keyAt
theorem dX8_falls_0 : decode cX8_falls 0 = .ok (.iconst 0, 1) := by decide +kernel
theorem dX8_falls_1 : decode cX8_falls 1 = .ok (.istore_n 2, 1) := by decide +kernel
theorem dX8_falls_2 : decode cX8_falls 2 = .ok (.aload_n 0, 1) := by decide +kernel
theorem dX8_falls_3 : decode cX8_falls 3 = .ok (.iload_n 1, 1) := by decide +kernel
theorem dX8_falls_4 : decode cX8_falls 4 = .ok (.invokevirtual 156, 3) := by decide +kernel
theorem dX8_falls_7 : decode cX8_falls 7 = .ok (.iconst 1, 1) := by decide +kernel
theorem dX8_falls_8 : decode cX8_falls 8 = .ok (.iadd, 1) := by decide +kernel
theorem dX8_falls_9 : decode cX8_falls 9 = .ok (.istore_n 3, 1) := by decide +kernel
theorem dX8_falls_10 : decode cX8_falls 10 = .ok (.iload_n 3, 1) := by decide +kernel
theorem dX8_falls_11 : decode cX8_falls 11 = .ok (.aload_n 0, 1) := by decide +kernel
theorem dX8_falls_12 : decode cX8_falls 12 = .ok (.iload_n 1, 1) := by decide +kernel
theorem dX8_falls_13 : decode cX8_falls 13 = .ok (.iconst 1, 1) := by decide +kernel
theorem dX8_falls_14 : decode cX8_falls 14 = .ok (.iadd, 1) := by decide +kernel
theorem dX8_falls_15 : decode cX8_falls 15 = .ok (.invokevirtual 156, 3) := by decide +kernel
theorem dX8_falls_18 : decode cX8_falls 18 = .ok (.if_icmp .ge 32, 3) := by decide +kernel
theorem dX8_falls_21 : decode cX8_falls 21 = .ok (.iload_n 2, 1) := by decide +kernel
theorem dX8_falls_22 : decode cX8_falls 22 = .ok (.aload_n 0, 1) := by decide +kernel
theorem dX8_falls_23 : decode cX8_falls 23 = .ok (.iload_n 3, 1) := by decide +kernel
theorem dX8_falls_24 : decode cX8_falls 24 = .ok (.iconst 1, 1) := by decide +kernel
theorem dX8_falls_25 : decode cX8_falls 25 = .ok (.isub, 1) := by decide +kernel
theorem dX8_falls_26 : decode cX8_falls 26 = .ok (.invokevirtual 159, 3) := by decide +kernel
theorem dX8_falls_29 : decode cX8_falls 29 = .ok (.aload_n 0, 1) := by decide +kernel
theorem dX8_falls_30 : decode cX8_falls 30 = .ok (.iload_n 3, 1) := by decide +kernel
theorem dX8_falls_31 : decode cX8_falls 31 = .ok (.invokevirtual 159, 3) := by decide +kernel
theorem dX8_falls_34 : decode cX8_falls 34 = .ok (.if_icmp .le 7, 3) := by decide +kernel
theorem dX8_falls_37 : decode cX8_falls 37 = .ok (.iconst 1, 1) := by decide +kernel
theorem dX8_falls_38 : decode cX8_falls 38 = .ok (.goto 4, 3) := by decide +kernel
theorem dX8_falls_41 : decode cX8_falls 41 = .ok (.iconst 0, 1) := by decide +kernel
theorem dX8_falls_42 : decode cX8_falls 42 = .ok (.iadd, 1) := by decide +kernel
theorem dX8_falls_43 : decode cX8_falls 43 = .ok (.istore_n 2, 1) := by decide +kernel
theorem dX8_falls_44 : decode cX8_falls 44 = .ok (.iinc 3 1, 3) := by decide +kernel
theorem dX8_falls_47 : decode cX8_falls 47 = .ok (.goto (-37), 3) := by decide +kernel
theorem dX8_falls_50 : decode cX8_falls 50 = .ok (.iload_n 2, 1) := by decide +kernel
theorem dX8_falls_51 : decode cX8_falls 51 = .ok (.ireturn, 1) := by decide +kernel
set_option maxRecDepth 20000 in
theorem ggX8_piece_X8_isPiece : GoodIn wsX8_piece wsX8_isPiece := goodIn_r _ [6, 7, 8, 9, 5, 10, 27, 28, 29, 30, 31, 32, 33, 34, 35, 36, 37, 38, 39, 40, 41, 42, 43, 44, 45, 46] (by decide +kernel) (by decide +kernel)
set_option maxRecDepth 20000 in
theorem gX8_piece_X8_isPiece : GoodIn wsX8_piece (wsV RX8 256 RX8 yX8_isPiece wsX8_isPiece) := goodIn_app (goodIn_of _ (by decide +kernel)) ggX8_piece_X8_isPiece
set_option maxRecDepth 20000 in
theorem ggX8_piece_X8_isIn : GoodIn wsX8_piece wsX8_isIn := goodIn_r _ [10] (by decide +kernel) (by decide +kernel)
set_option maxRecDepth 20000 in
theorem gX8_piece_X8_isIn : GoodIn wsX8_piece (va_wsS RX8 57 yX8_isIn wsX8_isIn) := goodIn_app (goodIn_of _ (by decide +kernel)) ggX8_piece_X8_isIn
set_option maxRecDepth 20000 in
theorem ggX8_piece_X8_of : GoodIn wsX8_piece wsX8_of := goodIn_r _ [14, 7, 27, 28, 29, 30, 31, 32, 33, 34, 35, 36, 37, 38, 39, 40, 41, 42, 43, 44, 45, 46] (by decide +kernel) (by decide +kernel)
set_option maxRecDepth 20000 in
theorem gX8_piece_X8_of : GoodIn wsX8_piece (wsV RX8 150 RX8 yX8_of wsX8_of) := goodIn_app (goodIn_of _ (by decide +kernel)) ggX8_piece_X8_of
set_option maxRecDepth 20000 in
theorem ggX8_piece_X8_firstPlace : GoodIn wsX8_piece wsX8_firstPlace := goodIn_r _ [18, 11, 12, 13, 5, 14, 7, 27, 28, 29, 30, 31, 32, 33, 34, 35, 36, 37, 38, 39, 40, 41, 42, 43, 44, 45, 46] (by decide +kernel) (by decide +kernel)
set_option maxRecDepth 20000 in
theorem gX8_piece_X8_firstPlace : GoodIn wsX8_piece (wsV RX8 156 RX8 yX8_firstPlace wsX8_firstPlace) := goodIn_app (goodIn_of _ (by decide +kernel)) ggX8_piece_X8_firstPlace
set_option maxRecDepth 20000 in
theorem ggX8_piece_X8_falls : GoodIn wsX8_piece wsX8_falls := goodIn_r _ [22, 15, 16, 17, 5, 18, 11, 12, 13, 14, 7, 23, 24, 25, 26, 27, 28, 29, 30, 31, 32, 33, 34, 35, 36, 37, 38, 39, 40, 41, 42, 43, 44, 45, 46] (by decide +kernel) (by decide +kernel)
set_option maxRecDepth 20000 in
theorem gX8_piece_X8_falls : GoodIn wsX8_piece (wsV RX8 259 RX8 yX8_falls wsX8_falls) := goodIn_app (goodIn_of _ (by decide +kernel)) ggX8_piece_X8_falls
theorem dX8_piece_0 : decode cX8_piece 0 = .ok (.aload_n 0, 1) := by decide +kernel
theorem dX8_piece_1 : decode cX8_piece 1 = .ok (.aload_n 0, 1) := by decide +kernel
theorem dX8_piece_2 : decode cX8_piece 2 = .ok (.iload_n 1, 1) := by decide +kernel
theorem dX8_piece_3 : decode cX8_piece 3 = .ok (.invokevirtual 256, 3) := by decide +kernel
theorem dX8_piece_6 : decode cX8_piece 6 = .ok (.ifCond .ne 7, 3) := by decide +kernel
theorem dX8_piece_9 : decode cX8_piece 9 = .ok (.iconst 1, 1) := by decide +kernel
theorem dX8_piece_10 : decode cX8_piece 10 = .ok (.goto 17, 3) := by decide +kernel
theorem dX8_piece_13 : decode cX8_piece 13 = .ok (.iload_n 2, 1) := by decide +kernel
theorem dX8_piece_14 : decode cX8_piece 14 = .ok (.iconst 0, 1) := by decide +kernel
theorem dX8_piece_15 : decode cX8_piece 15 = .ok (.iconst 5, 1) := by decide +kernel
theorem dX8_piece_16 : decode cX8_piece 16 = .ok (.invokestatic 57, 3) := by decide +kernel
theorem dX8_piece_19 : decode cX8_piece 19 = .ok (.ifCond .eq 7, 3) := by decide +kernel
theorem dX8_piece_22 : decode cX8_piece 22 = .ok (.iconst 0, 1) := by decide +kernel
theorem dX8_piece_23 : decode cX8_piece 23 = .ok (.goto 4, 3) := by decide +kernel
theorem dX8_piece_26 : decode cX8_piece 26 = .ok (.iconst 2, 1) := by decide +kernel
theorem dX8_piece_27 : decode cX8_piece 27 = .ok (.putfield 45, 3) := by decide +kernel
theorem dX8_piece_30 : decode cX8_piece 30 = .ok (.aload_n 0, 1) := by decide +kernel
theorem dX8_piece_31 : decode cX8_piece 31 = .ok (.getfield 45, 3) := by decide +kernel
theorem dX8_piece_34 : decode cX8_piece 34 = .ok (.ifCond .le 5, 3) := by decide +kernel
theorem dX8_piece_37 : decode cX8_piece 37 = .ok (.iconst 0, 1) := by decide +kernel
theorem dX8_piece_38 : decode cX8_piece 38 = .ok (.ireturn, 1) := by decide +kernel
theorem dX8_piece_39 : decode cX8_piece 39 = .ok (.iload_n 2, 1) := by decide +kernel
theorem dX8_piece_40 : decode cX8_piece 40 = .ok (.tableswitch 70 0 4 #[36, 43, 49, 56, 63], 36) := by decide +kernel
theorem dX8_piece_76 : decode cX8_piece 76 = .ok (.aload_n 0, 1) := by decide +kernel
theorem dX8_piece_77 : decode cX8_piece 77 = .ok (.iload_n 1, 1) := by decide +kernel
theorem dX8_piece_78 : decode cX8_piece 78 = .ok (.iconst 0, 1) := by decide +kernel
theorem dX8_piece_79 : decode cX8_piece 79 = .ok (.invokevirtual 150, 3) := by decide +kernel
theorem dX8_piece_82 : decode cX8_piece 82 = .ok (.ireturn, 1) := by decide +kernel
theorem dX8_piece_83 : decode cX8_piece 83 = .ok (.aload_n 0, 1) := by decide +kernel
theorem dX8_piece_84 : decode cX8_piece 84 = .ok (.iload_n 1, 1) := by decide +kernel
theorem dX8_piece_85 : decode cX8_piece 85 = .ok (.invokevirtual 156, 3) := by decide +kernel
theorem dX8_piece_88 : decode cX8_piece 88 = .ok (.ireturn, 1) := by decide +kernel
theorem dX8_piece_89 : decode cX8_piece 89 = .ok (.aload_n 0, 1) := by decide +kernel
theorem dX8_piece_90 : decode cX8_piece 90 = .ok (.iload_n 1, 1) := by decide +kernel
theorem dX8_piece_91 : decode cX8_piece 91 = .ok (.iconst 1, 1) := by decide +kernel
theorem dX8_piece_92 : decode cX8_piece 92 = .ok (.invokevirtual 150, 3) := by decide +kernel
theorem dX8_piece_95 : decode cX8_piece 95 = .ok (.ireturn, 1) := by decide +kernel
theorem dX8_piece_96 : decode cX8_piece 96 = .ok (.aload_n 0, 1) := by decide +kernel
theorem dX8_piece_97 : decode cX8_piece 97 = .ok (.iload_n 1, 1) := by decide +kernel
theorem dX8_piece_98 : decode cX8_piece 98 = .ok (.iconst 2, 1) := by decide +kernel
theorem dX8_piece_99 : decode cX8_piece 99 = .ok (.invokevirtual 150, 3) := by decide +kernel
theorem dX8_piece_102 : decode cX8_piece 102 = .ok (.ireturn, 1) := by decide +kernel
theorem dX8_piece_103 : decode cX8_piece 103 = .ok (.aload_n 0, 1) := by decide +kernel
theorem dX8_piece_104 : decode cX8_piece 104 = .ok (.iload_n 1, 1) := by decide +kernel
theorem dX8_piece_105 : decode cX8_piece 105 = .ok (.iconst 3, 1) := by decide +kernel
theorem dX8_piece_106 : decode cX8_piece 106 = .ok (.invokevirtual 150, 3) := by decide +kernel
theorem dX8_piece_109 : decode cX8_piece 109 = .ok (.ireturn, 1) := by decide +kernel
theorem dX8_piece_110 : decode cX8_piece 110 = .ok (.aload_n 0, 1) := by decide +kernel
theorem dX8_piece_111 : decode cX8_piece 111 = .ok (.iload_n 1, 1) := by decide +kernel
theorem dX8_piece_112 : decode cX8_piece 112 = .ok (.invokevirtual 259, 3) := by decide +kernel
theorem dX8_piece_115 : decode cX8_piece 115 = .ok (.ireturn, 1) := by decide +kernel
set_option maxRecDepth 20000 in
theorem ggX8_pieceOf_X8_isIn : GoodIn wsX8_pieceOf wsX8_isIn := goodIn_r _ [5] (by decide +kernel) (by decide +kernel)
set_option maxRecDepth 20000 in
theorem gX8_pieceOf_X8_isIn : GoodIn wsX8_pieceOf (va_wsS RX8 57 yX8_isIn wsX8_isIn) := goodIn_app (goodIn_of _ (by decide +kernel)) ggX8_pieceOf_X8_isIn
set_option maxRecDepth 20000 in
theorem ggX8_pieceOf_X8_lastPiece : GoodIn wsX8_pieceOf wsX8_lastPiece := goodIn_r _ [9, 10, 11, 12, 13, 4, 14, 15, 16, 17, 18, 19, 20, 21, 22, 23, 24, 25, 26, 27, 28, 29, 30, 31, 32, 33, 34] (by decide +kernel) (by decide +kernel)
set_option maxRecDepth 20000 in
theorem gX8_pieceOf_X8_lastPiece : GoodIn wsX8_pieceOf (wsV RX8 153 RX8 yX8_lastPiece wsX8_lastPiece) := goodIn_app (goodIn_of _ (by decide +kernel)) ggX8_pieceOf_X8_lastPiece
theorem dX8_pieceOf_0 : decode cX8_pieceOf 0 = .ok (.aload_n 0, 1) := by decide +kernel
theorem dX8_pieceOf_1 : decode cX8_pieceOf 1 = .ok (.iload_n 1, 1) := by decide +kernel
theorem dX8_pieceOf_2 : decode cX8_pieceOf 2 = .ok (.iconst 0, 1) := by decide +kernel
theorem dX8_pieceOf_3 : decode cX8_pieceOf 3 = .ok (.sipush 9999, 3) := by decide +kernel
theorem dX8_pieceOf_6 : decode cX8_pieceOf 6 = .ok (.invokestatic 57, 3) := by decide +kernel
theorem dX8_pieceOf_9 : decode cX8_pieceOf 9 = .ok (.ifCond .eq 7, 3) := by decide +kernel
theorem dX8_pieceOf_12 : decode cX8_pieceOf 12 = .ok (.iconst 0, 1) := by decide +kernel
theorem dX8_pieceOf_13 : decode cX8_pieceOf 13 = .ok (.goto 4, 3) := by decide +kernel
theorem dX8_pieceOf_16 : decode cX8_pieceOf 16 = .ok (.iconst 1, 1) := by decide +kernel
theorem dX8_pieceOf_17 : decode cX8_pieceOf 17 = .ok (.putfield 45, 3) := by decide +kernel
theorem dX8_pieceOf_20 : decode cX8_pieceOf 20 = .ok (.aload_n 0, 1) := by decide +kernel
theorem dX8_pieceOf_21 : decode cX8_pieceOf 21 = .ok (.getfield 45, 3) := by decide +kernel
theorem dX8_pieceOf_24 : decode cX8_pieceOf 24 = .ok (.ifCond .le 7, 3) := by decide +kernel
theorem dX8_pieceOf_27 : decode cX8_pieceOf 27 = .ok (.iconst 0, 1) := by decide +kernel
theorem dX8_pieceOf_28 : decode cX8_pieceOf 28 = .ok (.goto 8, 3) := by decide +kernel
theorem dX8_pieceOf_31 : decode cX8_pieceOf 31 = .ok (.aload_n 0, 1) := by decide +kernel
theorem dX8_pieceOf_32 : decode cX8_pieceOf 32 = .ok (.iload_n 1, 1) := by decide +kernel
theorem dX8_pieceOf_33 : decode cX8_pieceOf 33 = .ok (.invokevirtual 153, 3) := by decide +kernel
theorem dX8_pieceOf_36 : decode cX8_pieceOf 36 = .ok (.ireturn, 1) := by decide +kernel
set_option maxRecDepth 20000 in
theorem ggX8_pending_X8_isIn : GoodIn wsX8_pending wsX8_isIn := goodIn_r _ [6] (by decide +kernel) (by decide +kernel)
set_option maxRecDepth 20000 in
theorem gX8_pending_X8_isIn : GoodIn wsX8_pending (va_wsS RX8 57 yX8_isIn wsX8_isIn) := goodIn_app (goodIn_of _ (by decide +kernel)) ggX8_pending_X8_isIn
theorem dX8_pending_0 : decode cX8_pending 0 = .ok (.aload_n 0, 1) := by decide +kernel
theorem dX8_pending_1 : decode cX8_pending 1 = .ok (.iload_n 1, 1) := by decide +kernel
theorem dX8_pending_2 : decode cX8_pending 2 = .ok (.iconst 0, 1) := by decide +kernel
theorem dX8_pending_3 : decode cX8_pending 3 = .ok (.aload_n 0, 1) := by decide +kernel
theorem dX8_pending_4 : decode cX8_pending 4 = .ok (.getfield 7, 3) := by decide +kernel
theorem dX8_pending_7 : decode cX8_pending 7 = .ok (.iconst 2, 1) := by decide +kernel
theorem dX8_pending_8 : decode cX8_pending 8 = .ok (.iaload, 1) := by decide +kernel
theorem dX8_pending_9 : decode cX8_pending 9 = .ok (.iconst 1, 1) := by decide +kernel
theorem dX8_pending_10 : decode cX8_pending 10 = .ok (.isub, 1) := by decide +kernel
theorem dX8_pending_11 : decode cX8_pending 11 = .ok (.invokestatic 57, 3) := by decide +kernel
theorem dX8_pending_14 : decode cX8_pending 14 = .ok (.ifCond .eq 7, 3) := by decide +kernel
theorem dX8_pending_17 : decode cX8_pending 17 = .ok (.iconst 0, 1) := by decide +kernel
theorem dX8_pending_18 : decode cX8_pending 18 = .ok (.goto 4, 3) := by decide +kernel
theorem dX8_pending_21 : decode cX8_pending 21 = .ok (.iconst 1, 1) := by decide +kernel
theorem dX8_pending_22 : decode cX8_pending 22 = .ok (.putfield 45, 3) := by decide +kernel
theorem dX8_pending_25 : decode cX8_pending 25 = .ok (.aload_n 0, 1) := by decide +kernel
theorem dX8_pending_26 : decode cX8_pending 26 = .ok (.getfield 45, 3) := by decide +kernel
theorem dX8_pending_29 : decode cX8_pending 29 = .ok (.ifCond .le 7, 3) := by decide +kernel
theorem dX8_pending_32 : decode cX8_pending 32 = .ok (.iconst 0, 1) := by decide +kernel
theorem dX8_pending_33 : decode cX8_pending 33 = .ok (.goto 13, 3) := by decide +kernel
theorem dX8_pending_36 : decode cX8_pending 36 = .ok (.aload_n 0, 1) := by decide +kernel
theorem dX8_pending_37 : decode cX8_pending 37 = .ok (.getfield 7, 3) := by decide +kernel
theorem dX8_pending_40 : decode cX8_pending 40 = .ok (.sipush 500, 3) := by decide +kernel
theorem dX8_pending_43 : decode cX8_pending 43 = .ok (.iload_n 1, 1) := by decide +kernel
theorem dX8_pending_44 : decode cX8_pending 44 = .ok (.iadd, 1) := by decide +kernel
theorem dX8_pending_45 : decode cX8_pending 45 = .ok (.iaload, 1) := by decide +kernel
theorem dX8_pending_46 : decode cX8_pending 46 = .ok (.ireturn, 1) := by decide +kernel
theorem dX8_least_0 : decode cX8_least 0 = .ok (.iload_n 0, 1) := by decide +kernel
theorem dX8_least_1 : decode cX8_least 1 = .ok (.iconst 1, 1) := by decide +kernel
theorem dX8_least_2 : decode cX8_least 2 = .ok (.if_icmp .eq 8, 3) := by decide +kernel
theorem dX8_least_5 : decode cX8_least 5 = .ok (.iload_n 0, 1) := by decide +kernel
theorem dX8_least_6 : decode cX8_least 6 = .ok (.iconst 2, 1) := by decide +kernel
theorem dX8_least_7 : decode cX8_least 7 = .ok (.if_icmp .ne 7, 3) := by decide +kernel
theorem dX8_least_10 : decode cX8_least 10 = .ok (.iconst 2, 1) := by decide +kernel
theorem dX8_least_11 : decode cX8_least 11 = .ok (.goto 4, 3) := by decide +kernel
theorem dX8_least_14 : decode cX8_least 14 = .ok (.iconst 1, 1) := by decide +kernel
theorem dX8_least_15 : decode cX8_least 15 = .ok (.ireturn, 1) := by decide +kernel
theorem dX8_greatest_0 : decode cX8_greatest 0 = .ok (.iload_n 0, 1) := by decide +kernel
theorem dX8_greatest_1 : decode cX8_greatest 1 = .ok (.ifCond .ne 8, 3) := by decide +kernel
theorem dX8_greatest_4 : decode cX8_greatest 4 = .ok (.bipush 20, 2) := by decide +kernel
theorem dX8_greatest_6 : decode cX8_greatest 6 = .ok (.goto 25, 3) := by decide +kernel
theorem dX8_greatest_9 : decode cX8_greatest 9 = .ok (.iload_n 0, 1) := by decide +kernel
theorem dX8_greatest_10 : decode cX8_greatest 10 = .ok (.iconst 1, 1) := by decide +kernel
theorem dX8_greatest_11 : decode cX8_greatest 11 = .ok (.if_icmp .ne 8, 3) := by decide +kernel
theorem dX8_greatest_14 : decode cX8_greatest 14 = .ok (.bipush 120, 2) := by decide +kernel
theorem dX8_greatest_16 : decode cX8_greatest 16 = .ok (.goto 15, 3) := by decide +kernel
theorem dX8_greatest_19 : decode cX8_greatest 19 = .ok (.iload_n 0, 1) := by decide +kernel
theorem dX8_greatest_20 : decode cX8_greatest 20 = .ok (.iconst 2, 1) := by decide +kernel
theorem dX8_greatest_21 : decode cX8_greatest 21 = .ok (.if_icmp .ne 8, 3) := by decide +kernel
theorem dX8_greatest_24 : decode cX8_greatest 24 = .ok (.bipush 40, 2) := by decide +kernel
theorem dX8_greatest_26 : decode cX8_greatest 26 = .ok (.goto 5, 3) := by decide +kernel
theorem dX8_greatest_29 : decode cX8_greatest 29 = .ok (.bipush 30, 2) := by decide +kernel
theorem dX8_greatest_31 : decode cX8_greatest 31 = .ok (.ireturn, 1) := by decide +kernel
set_option maxRecDepth 20000 in
theorem ggX8_set_X8_isIn : GoodIn wsX8_set wsX8_isIn := goodIn_r _ [6] (by decide +kernel) (by decide +kernel)
set_option maxRecDepth 20000 in
theorem gX8_set_X8_isIn : GoodIn wsX8_set (va_wsS RX8 57 yX8_isIn wsX8_isIn) := goodIn_app (goodIn_of _ (by decide +kernel)) ggX8_set_X8_isIn
set_option maxRecDepth 20000 in
theorem ggX8_set_X8_least : GoodIn wsX8_set wsX8_least := goodIn_r _ [9] (by decide +kernel) (by decide +kernel)
set_option maxRecDepth 20000 in
theorem gX8_set_X8_least : GoodIn wsX8_set (va_wsS RX8 119 yX8_least wsX8_least) := goodIn_app (goodIn_of _ (by decide +kernel)) ggX8_set_X8_least
set_option maxRecDepth 20000 in
theorem ggX8_set_X8_greatest : GoodIn wsX8_set wsX8_greatest := goodIn_r _ [12] (by decide +kernel) (by decide +kernel)
set_option maxRecDepth 20000 in
theorem gX8_set_X8_greatest : GoodIn wsX8_set (va_wsS RX8 122 yX8_greatest wsX8_greatest) := goodIn_app (goodIn_of _ (by decide +kernel)) ggX8_set_X8_greatest
set_option maxRecDepth 20000 in
theorem ggX8_set_X8_keeps : GoodIn wsX8_set wsX8_keeps := goodIn_r _ [16, 17, 18, 2, 63, 64, 65, 66, 67, 68, 69, 70, 71, 72, 73, 74, 75, 76, 77, 78, 79, 80, 81, 82] (by decide +kernel) (by decide +kernel)
set_option maxRecDepth 20000 in
theorem gX8_set_X8_keeps : GoodIn wsX8_set (wsV RX8 147 RX8 yX8_keeps wsX8_keeps) := goodIn_app (goodIn_of _ (by decide +kernel)) ggX8_set_X8_keeps
set_option maxRecDepth 20000 in
theorem ggX8_set_X8_forces : GoodIn wsX8_set wsX8_forces := goodIn_r _ [22, 2, 23, 24, 25, 5, 26, 27, 28, 29, 30, 31, 32, 33, 34, 35, 36, 37, 38, 39, 40, 41, 42, 43, 44, 45, 46, 47, 48, 49, 50, 51, 52, 53, 54, 55, 56, 57, 58, 59, 60, 61, 62, 63, 64, 65, 66, 67, 68, 69, 70, 71, 72, 73, 74, 75, 76, 77, 78, 79, 80, 81, 82] (by decide +kernel) (by decide +kernel)
set_option maxRecDepth 20000 in
theorem gX8_set_X8_forces : GoodIn wsX8_set (wsV RX8 192 RX8 yX8_forces wsX8_forces) := goodIn_app (goodIn_of _ (by decide +kernel)) ggX8_set_X8_forces
theorem dX8_set_0 : decode cX8_set 0 = .ok (.aload_n 0, 1) := by decide +kernel
theorem dX8_set_1 : decode cX8_set 1 = .ok (.iload_n 1, 1) := by decide +kernel
theorem dX8_set_2 : decode cX8_set 2 = .ok (.iconst 0, 1) := by decide +kernel
theorem dX8_set_3 : decode cX8_set 3 = .ok (.iconst 3, 1) := by decide +kernel
theorem dX8_set_4 : decode cX8_set 4 = .ok (.invokestatic 57, 3) := by decide +kernel
theorem dX8_set_7 : decode cX8_set 7 = .ok (.ifCond .eq 22, 3) := by decide +kernel
theorem dX8_set_10 : decode cX8_set 10 = .ok (.iload_n 2, 1) := by decide +kernel
theorem dX8_set_11 : decode cX8_set 11 = .ok (.iload_n 1, 1) := by decide +kernel
theorem dX8_set_12 : decode cX8_set 12 = .ok (.invokestatic 119, 3) := by decide +kernel
theorem dX8_set_15 : decode cX8_set 15 = .ok (.iload_n 1, 1) := by decide +kernel
theorem dX8_set_16 : decode cX8_set 16 = .ok (.invokestatic 122, 3) := by decide +kernel
theorem dX8_set_19 : decode cX8_set 19 = .ok (.invokestatic 57, 3) := by decide +kernel
theorem dX8_set_22 : decode cX8_set 22 = .ok (.ifCond .eq 7, 3) := by decide +kernel
theorem dX8_set_25 : decode cX8_set 25 = .ok (.iconst 0, 1) := by decide +kernel
theorem dX8_set_26 : decode cX8_set 26 = .ok (.goto 4, 3) := by decide +kernel
theorem dX8_set_29 : decode cX8_set 29 = .ok (.iconst 1, 1) := by decide +kernel
theorem dX8_set_30 : decode cX8_set 30 = .ok (.putfield 45, 3) := by decide +kernel
theorem dX8_set_33 : decode cX8_set 33 = .ok (.aload_n 0, 1) := by decide +kernel
theorem dX8_set_34 : decode cX8_set 34 = .ok (.getfield 45, 3) := by decide +kernel
theorem dX8_set_37 : decode cX8_set 37 = .ok (.ifCond .le 5, 3) := by decide +kernel
theorem dX8_set_40 : decode cX8_set 40 = .ok (.iconst 0, 1) := by decide +kernel
theorem dX8_set_41 : decode cX8_set 41 = .ok (.ireturn, 1) := by decide +kernel
theorem dX8_set_42 : decode cX8_set 42 = .ok (.aload_n 0, 1) := by decide +kernel
theorem dX8_set_43 : decode cX8_set 43 = .ok (.invokevirtual 147, 3) := by decide +kernel
theorem dX8_set_46 : decode cX8_set 46 = .ok (.aload_n 0, 1) := by decide +kernel
theorem dX8_set_47 : decode cX8_set 47 = .ok (.getfield 7, 3) := by decide +kernel
theorem dX8_set_50 : decode cX8_set 50 = .ok (.iconst 4, 1) := by decide +kernel
theorem dX8_set_51 : decode cX8_set 51 = .ok (.iload_n 1, 1) := by decide +kernel
theorem dX8_set_52 : decode cX8_set 52 = .ok (.iadd, 1) := by decide +kernel
theorem dX8_set_53 : decode cX8_set 53 = .ok (.iaload, 1) := by decide +kernel
theorem dX8_set_54 : decode cX8_set 54 = .ok (.istore_n 3, 1) := by decide +kernel
theorem dX8_set_55 : decode cX8_set 55 = .ok (.aload_n 0, 1) := by decide +kernel
theorem dX8_set_56 : decode cX8_set 56 = .ok (.getfield 7, 3) := by decide +kernel
theorem dX8_set_59 : decode cX8_set 59 = .ok (.iconst 4, 1) := by decide +kernel
theorem dX8_set_60 : decode cX8_set 60 = .ok (.iload_n 1, 1) := by decide +kernel
theorem dX8_set_61 : decode cX8_set 61 = .ok (.iadd, 1) := by decide +kernel
theorem dX8_set_62 : decode cX8_set 62 = .ok (.iload_n 2, 1) := by decide +kernel
theorem dX8_set_63 : decode cX8_set 63 = .ok (.iastore, 1) := by decide +kernel
theorem dX8_set_64 : decode cX8_set 64 = .ok (.aload_n 0, 1) := by decide +kernel
theorem dX8_set_65 : decode cX8_set 65 = .ok (.invokevirtual 192, 3) := by decide +kernel
theorem dX8_set_68 : decode cX8_set 68 = .ok (.iload_n 3, 1) := by decide +kernel
theorem dX8_set_69 : decode cX8_set 69 = .ok (.ireturn, 1) := by decide +kernel
set_option maxRecDepth 20000 in
theorem ggX8_sort_X8_isPiece : GoodIn wsX8_sort wsX8_isPiece := goodIn_r _ [6, 7, 8, 9, 5, 10, 38, 39, 40, 41, 42, 43, 44, 45, 46, 47, 48, 49, 50, 51, 52, 53, 54, 55, 56, 57] (by decide +kernel) (by decide +kernel)
set_option maxRecDepth 20000 in
theorem gX8_sort_X8_isPiece : GoodIn wsX8_sort (wsV RX8 256 RX8 yX8_isPiece wsX8_isPiece) := goodIn_app (goodIn_of _ (by decide +kernel)) ggX8_sort_X8_isPiece
set_option maxRecDepth 20000 in
theorem ggX8_sort_X8_keeps : GoodIn wsX8_sort wsX8_keeps := goodIn_r _ [14, 15, 16, 7, 38, 39, 40, 41, 42, 43, 44, 45, 46, 47, 48, 49, 50, 51, 52, 53, 54, 55, 56, 57] (by decide +kernel) (by decide +kernel)
set_option maxRecDepth 20000 in
theorem gX8_sort_X8_keeps : GoodIn wsX8_sort (wsV RX8 147 RX8 yX8_keeps wsX8_keeps) := goodIn_app (goodIn_of _ (by decide +kernel)) ggX8_sort_X8_keeps
set_option maxRecDepth 20000 in
theorem ggX8_sort_X8_sorts : GoodIn wsX8_sort wsX8_sorts := goodIn_r _ [20, 21, 7, 22, 23, 24, 5, 25, 26, 27, 28, 29, 30, 31, 32, 33, 34, 35, 36, 37, 38, 39, 40, 41, 42, 43, 44, 45, 46, 47, 48, 49, 50, 51, 52, 53, 54, 55, 56, 57] (by decide +kernel) (by decide +kernel)
set_option maxRecDepth 20000 in
theorem gX8_sort_X8_sorts : GoodIn wsX8_sort (wsV RX8 207 RX8 yX8_sorts wsX8_sorts) := goodIn_app (goodIn_of _ (by decide +kernel)) ggX8_sort_X8_sorts
theorem dX8_sort_0 : decode cX8_sort 0 = .ok (.aload_n 0, 1) := by decide +kernel
theorem dX8_sort_1 : decode cX8_sort 1 = .ok (.aload_n 0, 1) := by decide +kernel
theorem dX8_sort_2 : decode cX8_sort 2 = .ok (.iload_n 1, 1) := by decide +kernel
theorem dX8_sort_3 : decode cX8_sort 3 = .ok (.invokevirtual 256, 3) := by decide +kernel
theorem dX8_sort_6 : decode cX8_sort 6 = .ok (.ifCond .eq 7, 3) := by decide +kernel
theorem dX8_sort_9 : decode cX8_sort 9 = .ok (.iconst 0, 1) := by decide +kernel
theorem dX8_sort_10 : decode cX8_sort 10 = .ok (.goto 4, 3) := by decide +kernel
theorem dX8_sort_13 : decode cX8_sort 13 = .ok (.iconst 1, 1) := by decide +kernel
theorem dX8_sort_14 : decode cX8_sort 14 = .ok (.putfield 45, 3) := by decide +kernel
theorem dX8_sort_17 : decode cX8_sort 17 = .ok (.aload_n 0, 1) := by decide +kernel
theorem dX8_sort_18 : decode cX8_sort 18 = .ok (.getfield 45, 3) := by decide +kernel
theorem dX8_sort_21 : decode cX8_sort 21 = .ok (.ifCond .le 5, 3) := by decide +kernel
theorem dX8_sort_24 : decode cX8_sort 24 = .ok (.iconst 0, 1) := by decide +kernel
theorem dX8_sort_25 : decode cX8_sort 25 = .ok (.ireturn, 1) := by decide +kernel
theorem dX8_sort_26 : decode cX8_sort 26 = .ok (.aload_n 0, 1) := by decide +kernel
theorem dX8_sort_27 : decode cX8_sort 27 = .ok (.invokevirtual 147, 3) := by decide +kernel
theorem dX8_sort_30 : decode cX8_sort 30 = .ok (.aload_n 0, 1) := by decide +kernel
theorem dX8_sort_31 : decode cX8_sort 31 = .ok (.iload_n 1, 1) := by decide +kernel
theorem dX8_sort_32 : decode cX8_sort 32 = .ok (.invokevirtual 207, 3) := by decide +kernel
theorem dX8_sort_35 : decode cX8_sort 35 = .ok (.ireturn, 1) := by decide +kernel
set_option maxRecDepth 20000 in
theorem ggX8_crack_X8_isIn : GoodIn wsX8_crack wsX8_isIn := goodIn_r _ [6] (by decide +kernel) (by decide +kernel)
set_option maxRecDepth 20000 in
theorem gX8_crack_X8_isIn : GoodIn wsX8_crack (va_wsS RX8 57 yX8_isIn wsX8_isIn) := goodIn_app (goodIn_of _ (by decide +kernel)) ggX8_crack_X8_isIn
set_option maxRecDepth 20000 in
theorem ggX8_crack_X8_keeps : GoodIn wsX8_crack wsX8_keeps := goodIn_r _ [10, 11, 12, 1, 41, 42, 43, 44, 45, 46, 47, 48, 49, 50, 51, 52, 53, 54, 55, 56, 57, 58, 59, 60] (by decide +kernel) (by decide +kernel)
set_option maxRecDepth 20000 in
theorem gX8_crack_X8_keeps : GoodIn wsX8_crack (wsV RX8 147 RX8 yX8_keeps wsX8_keeps) := goodIn_app (goodIn_of _ (by decide +kernel)) ggX8_crack_X8_keeps
set_option maxRecDepth 20000 in
theorem ggX8_crack_X8_cracks : GoodIn wsX8_crack wsX8_cracks := goodIn_r _ [16, 17, 1, 18, 19, 20, 5, 21, 22, 23, 24, 25, 26, 27, 28, 29, 30, 31, 32, 33, 34, 35, 36, 37, 38, 39, 40, 41, 42, 43, 44, 45, 46, 47, 48, 49, 50, 51, 52, 53, 54, 55, 56, 57, 58, 59, 60] (by decide +kernel) (by decide +kernel)
set_option maxRecDepth 20000 in
theorem gX8_crack_X8_cracks : GoodIn wsX8_crack (wsV RX8 216 RX8 yX8_cracks wsX8_cracks) := goodIn_app (goodIn_of _ (by decide +kernel)) ggX8_crack_X8_cracks
theorem dX8_crack_0 : decode cX8_crack 0 = .ok (.aload_n 0, 1) := by decide +kernel
theorem dX8_crack_1 : decode cX8_crack 1 = .ok (.iload_n 1, 1) := by decide +kernel
theorem dX8_crack_2 : decode cX8_crack 2 = .ok (.iconst 0, 1) := by decide +kernel
theorem dX8_crack_3 : decode cX8_crack 3 = .ok (.sipush 10000, 3) := by decide +kernel
theorem dX8_crack_6 : decode cX8_crack 6 = .ok (.invokestatic 57, 3) := by decide +kernel
theorem dX8_crack_9 : decode cX8_crack 9 = .ok (.ifCond .ne 7, 3) := by decide +kernel
theorem dX8_crack_12 : decode cX8_crack 12 = .ok (.iconst 1, 1) := by decide +kernel
theorem dX8_crack_13 : decode cX8_crack 13 = .ok (.goto 19, 3) := by decide +kernel
theorem dX8_crack_16 : decode cX8_crack 16 = .ok (.aload_n 0, 1) := by decide +kernel
theorem dX8_crack_17 : decode cX8_crack 17 = .ok (.getfield 7, 3) := by decide +kernel
theorem dX8_crack_20 : decode cX8_crack 20 = .ok (.iconst 3, 1) := by decide +kernel
theorem dX8_crack_21 : decode cX8_crack 21 = .ok (.iaload, 1) := by decide +kernel
theorem dX8_crack_22 : decode cX8_crack 22 = .ok (.bipush 60, 2) := by decide +kernel
theorem dX8_crack_24 : decode cX8_crack 24 = .ok (.if_icmp .lt 7, 3) := by decide +kernel
theorem dX8_crack_27 : decode cX8_crack 27 = .ok (.iconst 2, 1) := by decide +kernel
theorem dX8_crack_28 : decode cX8_crack 28 = .ok (.goto 4, 3) := by decide +kernel
theorem dX8_crack_31 : decode cX8_crack 31 = .ok (.iconst 0, 1) := by decide +kernel
theorem dX8_crack_32 : decode cX8_crack 32 = .ok (.putfield 45, 3) := by decide +kernel
theorem dX8_crack_35 : decode cX8_crack 35 = .ok (.aload_n 0, 1) := by decide +kernel
theorem dX8_crack_36 : decode cX8_crack 36 = .ok (.getfield 45, 3) := by decide +kernel
theorem dX8_crack_39 : decode cX8_crack 39 = .ok (.ifCond .le 5, 3) := by decide +kernel
theorem dX8_crack_42 : decode cX8_crack 42 = .ok (.iconst 0, 1) := by decide +kernel
theorem dX8_crack_43 : decode cX8_crack 43 = .ok (.ireturn, 1) := by decide +kernel
theorem dX8_crack_44 : decode cX8_crack 44 = .ok (.aload_n 0, 1) := by decide +kernel
theorem dX8_crack_45 : decode cX8_crack 45 = .ok (.invokevirtual 147, 3) := by decide +kernel
theorem dX8_crack_48 : decode cX8_crack 48 = .ok (.aload_n 0, 1) := by decide +kernel
theorem dX8_crack_49 : decode cX8_crack 49 = .ok (.iload_n 1, 1) := by decide +kernel
theorem dX8_crack_50 : decode cX8_crack 50 = .ok (.invokevirtual 216, 3) := by decide +kernel
theorem dX8_crack_53 : decode cX8_crack 53 = .ok (.istore_n 2, 1) := by decide +kernel
theorem dX8_crack_54 : decode cX8_crack 54 = .ok (.aload_n 0, 1) := by decide +kernel
theorem dX8_crack_55 : decode cX8_crack 55 = .ok (.getfield 7, 3) := by decide +kernel
theorem dX8_crack_58 : decode cX8_crack 58 = .ok (.bipush 8, 2) := by decide +kernel
theorem dX8_crack_60 : decode cX8_crack 60 = .ok (.dup2, 1) := by decide +kernel
theorem dX8_crack_61 : decode cX8_crack 61 = .ok (.iaload, 1) := by decide +kernel
theorem dX8_crack_62 : decode cX8_crack 62 = .ok (.iload_n 2, 1) := by decide +kernel
theorem dX8_crack_63 : decode cX8_crack 63 = .ok (.iadd, 1) := by decide +kernel
theorem dX8_crack_64 : decode cX8_crack 64 = .ok (.iastore, 1) := by decide +kernel
theorem dX8_crack_65 : decode cX8_crack 65 = .ok (.iload_n 2, 1) := by decide +kernel
theorem dX8_crack_66 : decode cX8_crack 66 = .ok (.ireturn, 1) := by decide +kernel
set_option maxRecDepth 20000 in
theorem ggX8_largest_X8_of : GoodIn wsX8_largest wsX8_of := goodIn_r _ [6, 1, 7, 8, 9, 10, 11, 12, 13, 14, 15, 16, 17, 18, 19, 20, 21, 22, 23, 24, 25, 26] (by decide +kernel) (by decide +kernel)
set_option maxRecDepth 20000 in
theorem gX8_largest_X8_of : GoodIn wsX8_largest (wsV RX8 150 RX8 yX8_of wsX8_of) := goodIn_app (goodIn_of _ (by decide +kernel)) ggX8_largest_X8_of
theorem dX8_largest_0 : decode cX8_largest 0 = .ok (.iconst (-1), 1) := by decide +kernel
theorem dX8_largest_1 : decode cX8_largest 1 = .ok (.istore_n 1, 1) := by decide +kernel
theorem dX8_largest_2 : decode cX8_largest 2 = .ok (.iconst 0, 1) := by decide +kernel
theorem dX8_largest_3 : decode cX8_largest 3 = .ok (.istore_n 2, 1) := by decide +kernel
theorem dX8_largest_4 : decode cX8_largest 4 = .ok (.iload_n 2, 1) := by decide +kernel
theorem dX8_largest_5 : decode cX8_largest 5 = .ok (.aload_n 0, 1) := by decide +kernel
theorem dX8_largest_6 : decode cX8_largest 6 = .ok (.getfield 7, 3) := by decide +kernel
theorem dX8_largest_9 : decode cX8_largest 9 = .ok (.iconst 3, 1) := by decide +kernel
theorem dX8_largest_10 : decode cX8_largest 10 = .ok (.iaload, 1) := by decide +kernel
theorem dX8_largest_11 : decode cX8_largest 11 = .ok (.if_icmp .ge 44, 3) := by decide +kernel
theorem dX8_largest_14 : decode cX8_largest 14 = .ok (.aload_n 0, 1) := by decide +kernel
theorem dX8_largest_15 : decode cX8_largest 15 = .ok (.iload_n 2, 1) := by decide +kernel
theorem dX8_largest_16 : decode cX8_largest 16 = .ok (.iconst 3, 1) := by decide +kernel
theorem dX8_largest_17 : decode cX8_largest 17 = .ok (.invokevirtual 150, 3) := by decide +kernel
theorem dX8_largest_20 : decode cX8_largest 20 = .ok (.ifCond .ne 27, 3) := by decide +kernel
theorem dX8_largest_23 : decode cX8_largest 23 = .ok (.iload_n 1, 1) := by decide +kernel
theorem dX8_largest_24 : decode cX8_largest 24 = .ok (.iconst (-1), 1) := by decide +kernel
theorem dX8_largest_25 : decode cX8_largest 25 = .ok (.if_icmp .eq 18, 3) := by decide +kernel
theorem dX8_largest_28 : decode cX8_largest 28 = .ok (.aload_n 0, 1) := by decide +kernel
theorem dX8_largest_29 : decode cX8_largest 29 = .ok (.iload_n 2, 1) := by decide +kernel
theorem dX8_largest_30 : decode cX8_largest 30 = .ok (.iconst 1, 1) := by decide +kernel
theorem dX8_largest_31 : decode cX8_largest 31 = .ok (.invokevirtual 150, 3) := by decide +kernel
theorem dX8_largest_34 : decode cX8_largest 34 = .ok (.aload_n 0, 1) := by decide +kernel
theorem dX8_largest_35 : decode cX8_largest 35 = .ok (.iload_n 1, 1) := by decide +kernel
theorem dX8_largest_36 : decode cX8_largest 36 = .ok (.iconst 1, 1) := by decide +kernel
theorem dX8_largest_37 : decode cX8_largest 37 = .ok (.invokevirtual 150, 3) := by decide +kernel
theorem dX8_largest_40 : decode cX8_largest 40 = .ok (.if_icmp .le 7, 3) := by decide +kernel
theorem dX8_largest_43 : decode cX8_largest 43 = .ok (.iload_n 2, 1) := by decide +kernel
theorem dX8_largest_44 : decode cX8_largest 44 = .ok (.goto 4, 3) := by decide +kernel
theorem dX8_largest_47 : decode cX8_largest 47 = .ok (.iload_n 1, 1) := by decide +kernel
theorem dX8_largest_48 : decode cX8_largest 48 = .ok (.istore_n 1, 1) := by decide +kernel
theorem dX8_largest_49 : decode cX8_largest 49 = .ok (.iinc 2 1, 3) := by decide +kernel
theorem dX8_largest_52 : decode cX8_largest 52 = .ok (.goto (-48), 3) := by decide +kernel
theorem dX8_largest_55 : decode cX8_largest 55 = .ok (.iload_n 1, 1) := by decide +kernel
theorem dX8_largest_56 : decode cX8_largest 56 = .ok (.ireturn, 1) := by decide +kernel
set_option maxRecDepth 20000 in
theorem ggX8_unevenAt_X8_firstPlace : GoodIn wsX8_unevenAt wsX8_firstPlace := goodIn_r _ [5, 6, 7, 8, 4, 9, 10, 15, 16, 17, 18, 19, 20, 21, 22, 23, 24, 25, 26, 27, 28, 29, 30, 31, 32, 33, 34] (by decide +kernel) (by decide +kernel)
set_option maxRecDepth 20000 in
theorem gX8_unevenAt_X8_firstPlace : GoodIn wsX8_unevenAt (wsV RX8 156 RX8 yX8_firstPlace wsX8_firstPlace) := goodIn_app (goodIn_of _ (by decide +kernel)) ggX8_unevenAt_X8_firstPlace
set_option maxRecDepth 20000 in
theorem ggX8_unevenAt_X8_keyAt : GoodIn wsX8_unevenAt wsX8_keyAt := goodIn_r _ [14, 10, 15, 16, 17, 18, 19, 20, 21, 22, 23, 24, 25, 26, 27, 28, 29, 30, 31, 32, 33, 34] (by decide +kernel) (by decide +kernel)
set_option maxRecDepth 20000 in
theorem gX8_unevenAt_X8_keyAt : GoodIn wsX8_unevenAt (wsV RX8 159 RX8 yX8_keyAt wsX8_keyAt) := goodIn_app (goodIn_of _ (by decide +kernel)) ggX8_unevenAt_X8_keyAt
theorem dX8_unevenAt_0 : decode cX8_unevenAt 0 = .ok (.iconst 0, 1) := by decide +kernel
theorem dX8_unevenAt_1 : decode cX8_unevenAt 1 = .ok (.istore_n 3, 1) := by decide +kernel
theorem dX8_unevenAt_2 : decode cX8_unevenAt 2 = .ok (.aload_n 0, 1) := by decide +kernel
theorem dX8_unevenAt_3 : decode cX8_unevenAt 3 = .ok (.iload_n 1, 1) := by decide +kernel
theorem dX8_unevenAt_4 : decode cX8_unevenAt 4 = .ok (.invokevirtual 156, 3) := by decide +kernel
theorem dX8_unevenAt_7 : decode cX8_unevenAt 7 = .ok (.istore 4, 2) := by decide +kernel
theorem dX8_unevenAt_9 : decode cX8_unevenAt 9 = .ok (.iload 4, 2) := by decide +kernel
theorem dX8_unevenAt_11 : decode cX8_unevenAt 11 = .ok (.aload_n 0, 1) := by decide +kernel
theorem dX8_unevenAt_12 : decode cX8_unevenAt 12 = .ok (.iload_n 1, 1) := by decide +kernel
theorem dX8_unevenAt_13 : decode cX8_unevenAt 13 = .ok (.iconst 1, 1) := by decide +kernel
theorem dX8_unevenAt_14 : decode cX8_unevenAt 14 = .ok (.iadd, 1) := by decide +kernel
theorem dX8_unevenAt_15 : decode cX8_unevenAt 15 = .ok (.invokevirtual 156, 3) := by decide +kernel
theorem dX8_unevenAt_18 : decode cX8_unevenAt 18 = .ok (.if_icmp .ge 27, 3) := by decide +kernel
theorem dX8_unevenAt_21 : decode cX8_unevenAt 21 = .ok (.iload_n 3, 1) := by decide +kernel
theorem dX8_unevenAt_22 : decode cX8_unevenAt 22 = .ok (.aload_n 0, 1) := by decide +kernel
theorem dX8_unevenAt_23 : decode cX8_unevenAt 23 = .ok (.iload 4, 2) := by decide +kernel
theorem dX8_unevenAt_25 : decode cX8_unevenAt 25 = .ok (.invokevirtual 159, 3) := by decide +kernel
theorem dX8_unevenAt_28 : decode cX8_unevenAt 28 = .ok (.iload_n 2, 1) := by decide +kernel
theorem dX8_unevenAt_29 : decode cX8_unevenAt 29 = .ok (.if_icmp .ge 7, 3) := by decide +kernel
theorem dX8_unevenAt_32 : decode cX8_unevenAt 32 = .ok (.iconst 1, 1) := by decide +kernel
theorem dX8_unevenAt_33 : decode cX8_unevenAt 33 = .ok (.goto 4, 3) := by decide +kernel
theorem dX8_unevenAt_36 : decode cX8_unevenAt 36 = .ok (.iconst (-1), 1) := by decide +kernel
theorem dX8_unevenAt_37 : decode cX8_unevenAt 37 = .ok (.iadd, 1) := by decide +kernel
theorem dX8_unevenAt_38 : decode cX8_unevenAt 38 = .ok (.istore_n 3, 1) := by decide +kernel
theorem dX8_unevenAt_39 : decode cX8_unevenAt 39 = .ok (.iinc 4 1, 3) := by decide +kernel
theorem dX8_unevenAt_42 : decode cX8_unevenAt 42 = .ok (.goto (-33), 3) := by decide +kernel
theorem dX8_unevenAt_45 : decode cX8_unevenAt 45 = .ok (.iload_n 3, 1) := by decide +kernel
theorem dX8_unevenAt_46 : decode cX8_unevenAt 46 = .ok (.ifCond .ge 8, 3) := by decide +kernel
theorem dX8_unevenAt_49 : decode cX8_unevenAt 49 = .ok (.iload_n 3, 1) := by decide +kernel
theorem dX8_unevenAt_50 : decode cX8_unevenAt 50 = .ok (.ineg, 1) := by decide +kernel
theorem dX8_unevenAt_51 : decode cX8_unevenAt 51 = .ok (.goto 4, 3) := by decide +kernel
theorem dX8_unevenAt_54 : decode cX8_unevenAt 54 = .ok (.iload_n 3, 1) := by decide +kernel
theorem dX8_unevenAt_55 : decode cX8_unevenAt 55 = .ok (.ireturn, 1) := by decide +kernel
set_option maxRecDepth 20000 in
theorem ggX8_evenCrack_X8_largest : GoodIn wsX8_evenCrack wsX8_largest := goodIn_r _ [6, 7, 8, 9, 10, 5, 11, 24, 25, 26, 27, 28, 29, 30, 31, 32, 33, 34, 35, 36, 37, 38, 39, 40, 41, 42, 43] (by decide +kernel) (by decide +kernel)
set_option maxRecDepth 20000 in
theorem gX8_evenCrack_X8_largest : GoodIn wsX8_evenCrack (wsV RX8 262 RX8 yX8_largest wsX8_largest) := goodIn_app (goodIn_of _ (by decide +kernel)) ggX8_evenCrack_X8_largest
set_option maxRecDepth 20000 in
theorem ggX8_evenCrack_X8_firstPlace : GoodIn wsX8_evenCrack wsX8_firstPlace := goodIn_r _ [15, 8, 9, 10, 5, 11, 7, 24, 25, 26, 27, 28, 29, 30, 31, 32, 33, 34, 35, 36, 37, 38, 39, 40, 41, 42, 43] (by decide +kernel) (by decide +kernel)
set_option maxRecDepth 20000 in
theorem gX8_evenCrack_X8_firstPlace : GoodIn wsX8_evenCrack (wsV RX8 156 RX8 yX8_firstPlace wsX8_firstPlace) := goodIn_app (goodIn_of _ (by decide +kernel)) ggX8_evenCrack_X8_firstPlace
set_option maxRecDepth 20000 in
theorem ggX8_evenCrack_X8_keyAt : GoodIn wsX8_evenCrack wsX8_keyAt := goodIn_r _ [19, 7, 24, 25, 26, 27, 28, 29, 30, 31, 32, 33, 34, 35, 36, 37, 38, 39, 40, 41, 42, 43] (by decide +kernel) (by decide +kernel)
set_option maxRecDepth 20000 in
theorem gX8_evenCrack_X8_keyAt : GoodIn wsX8_evenCrack (wsV RX8 159 RX8 yX8_keyAt wsX8_keyAt) := goodIn_app (goodIn_of _ (by decide +kernel)) ggX8_evenCrack_X8_keyAt
set_option maxRecDepth 20000 in
theorem ggX8_evenCrack_X8_unevenAt : GoodIn wsX8_evenCrack wsX8_unevenAt := goodIn_r _ [23, 12, 13, 14, 5, 15, 8, 9, 10, 11, 7, 16, 17, 18, 19, 24, 25, 26, 27, 28, 29, 30, 31, 32, 33, 34, 35, 36, 37, 38, 39, 40, 41, 42, 43] (by decide +kernel) (by decide +kernel)
set_option maxRecDepth 20000 in
theorem gX8_evenCrack_X8_unevenAt : GoodIn wsX8_evenCrack (wsV RX8 265 RX8 yX8_unevenAt wsX8_unevenAt) := goodIn_app (goodIn_of _ (by decide +kernel)) ggX8_evenCrack_X8_unevenAt
set_option maxRecDepth 20000 in
theorem ggX8_evenCrack_X8_of : GoodIn wsX8_evenCrack wsX8_of := goodIn_r _ [11, 7, 24, 25, 26, 27, 28, 29, 30, 31, 32, 33, 34, 35, 36, 37, 38, 39, 40, 41, 42, 43] (by decide +kernel) (by decide +kernel)
set_option maxRecDepth 20000 in
theorem gX8_evenCrack_X8_of : GoodIn wsX8_evenCrack (wsV RX8 150 RX8 yX8_of wsX8_of) := goodIn_app (goodIn_of _ (by decide +kernel)) ggX8_evenCrack_X8_of
theorem dX8_evenCrack_0 : decode cX8_evenCrack 0 = .ok (.aload_n 0, 1) := by decide +kernel
theorem dX8_evenCrack_1 : decode cX8_evenCrack 1 = .ok (.invokevirtual 262, 3) := by decide +kernel
theorem dX8_evenCrack_4 : decode cX8_evenCrack 4 = .ok (.istore_n 1, 1) := by decide +kernel
theorem dX8_evenCrack_5 : decode cX8_evenCrack 5 = .ok (.iconst (-1), 1) := by decide +kernel
theorem dX8_evenCrack_6 : decode cX8_evenCrack 6 = .ok (.istore_n 2, 1) := by decide +kernel
theorem dX8_evenCrack_7 : decode cX8_evenCrack 7 = .ok (.iconst 0, 1) := by decide +kernel
theorem dX8_evenCrack_8 : decode cX8_evenCrack 8 = .ok (.istore_n 3, 1) := by decide +kernel
theorem dX8_evenCrack_9 : decode cX8_evenCrack 9 = .ok (.iload_n 1, 1) := by decide +kernel
theorem dX8_evenCrack_10 : decode cX8_evenCrack 10 = .ok (.iconst (-1), 1) := by decide +kernel
theorem dX8_evenCrack_11 : decode cX8_evenCrack 11 = .ok (.if_icmp .ne 7, 3) := by decide +kernel
theorem dX8_evenCrack_14 : decode cX8_evenCrack 14 = .ok (.iconst 0, 1) := by decide +kernel
theorem dX8_evenCrack_15 : decode cX8_evenCrack 15 = .ok (.goto 8, 3) := by decide +kernel
theorem dX8_evenCrack_18 : decode cX8_evenCrack 18 = .ok (.aload_n 0, 1) := by decide +kernel
theorem dX8_evenCrack_19 : decode cX8_evenCrack 19 = .ok (.iload_n 1, 1) := by decide +kernel
theorem dX8_evenCrack_20 : decode cX8_evenCrack 20 = .ok (.invokevirtual 156, 3) := by decide +kernel
theorem dX8_evenCrack_23 : decode cX8_evenCrack 23 = .ok (.istore 4, 2) := by decide +kernel
theorem dX8_evenCrack_25 : decode cX8_evenCrack 25 = .ok (.iload_n 1, 1) := by decide +kernel
theorem dX8_evenCrack_26 : decode cX8_evenCrack 26 = .ok (.iconst (-1), 1) := by decide +kernel
theorem dX8_evenCrack_27 : decode cX8_evenCrack 27 = .ok (.if_icmp .eq 93, 3) := by decide +kernel
theorem dX8_evenCrack_30 : decode cX8_evenCrack 30 = .ok (.iload 4, 2) := by decide +kernel
theorem dX8_evenCrack_32 : decode cX8_evenCrack 32 = .ok (.aload_n 0, 1) := by decide +kernel
theorem dX8_evenCrack_33 : decode cX8_evenCrack 33 = .ok (.iload_n 1, 1) := by decide +kernel
theorem dX8_evenCrack_34 : decode cX8_evenCrack 34 = .ok (.iconst 1, 1) := by decide +kernel
theorem dX8_evenCrack_35 : decode cX8_evenCrack 35 = .ok (.iadd, 1) := by decide +kernel
theorem dX8_evenCrack_36 : decode cX8_evenCrack 36 = .ok (.invokevirtual 156, 3) := by decide +kernel
theorem dX8_evenCrack_39 : decode cX8_evenCrack 39 = .ok (.if_icmp .ge 81, 3) := by decide +kernel
theorem dX8_evenCrack_42 : decode cX8_evenCrack 42 = .ok (.aload_n 0, 1) := by decide +kernel
theorem dX8_evenCrack_43 : decode cX8_evenCrack 43 = .ok (.iload 4, 2) := by decide +kernel
theorem dX8_evenCrack_45 : decode cX8_evenCrack 45 = .ok (.invokevirtual 159, 3) := by decide +kernel
theorem dX8_evenCrack_48 : decode cX8_evenCrack 48 = .ok (.istore 5, 2) := by decide +kernel
theorem dX8_evenCrack_50 : decode cX8_evenCrack 50 = .ok (.aload_n 0, 1) := by decide +kernel
theorem dX8_evenCrack_51 : decode cX8_evenCrack 51 = .ok (.iload_n 1, 1) := by decide +kernel
theorem dX8_evenCrack_52 : decode cX8_evenCrack 52 = .ok (.iload 5, 2) := by decide +kernel
theorem dX8_evenCrack_54 : decode cX8_evenCrack 54 = .ok (.invokevirtual 265, 3) := by decide +kernel
theorem dX8_evenCrack_57 : decode cX8_evenCrack 57 = .ok (.istore 6, 2) := by decide +kernel
theorem dX8_evenCrack_59 : decode cX8_evenCrack 59 = .ok (.iload_n 2, 1) := by decide +kernel
theorem dX8_evenCrack_60 : decode cX8_evenCrack 60 = .ok (.iconst (-1), 1) := by decide +kernel
theorem dX8_evenCrack_61 : decode cX8_evenCrack 61 = .ok (.if_icmp .eq 21, 3) := by decide +kernel
theorem dX8_evenCrack_64 : decode cX8_evenCrack 64 = .ok (.iload 6, 2) := by decide +kernel
theorem dX8_evenCrack_66 : decode cX8_evenCrack 66 = .ok (.iload_n 3, 1) := by decide +kernel
theorem dX8_evenCrack_67 : decode cX8_evenCrack 67 = .ok (.if_icmp .lt 15, 3) := by decide +kernel
theorem dX8_evenCrack_70 : decode cX8_evenCrack 70 = .ok (.iload 6, 2) := by decide +kernel
theorem dX8_evenCrack_72 : decode cX8_evenCrack 72 = .ok (.iload_n 3, 1) := by decide +kernel
theorem dX8_evenCrack_73 : decode cX8_evenCrack 73 = .ok (.if_icmp .ne 13, 3) := by decide +kernel
theorem dX8_evenCrack_76 : decode cX8_evenCrack 76 = .ok (.iload 5, 2) := by decide +kernel
theorem dX8_evenCrack_78 : decode cX8_evenCrack 78 = .ok (.iload_n 2, 1) := by decide +kernel
theorem dX8_evenCrack_79 : decode cX8_evenCrack 79 = .ok (.if_icmp .ge 7, 3) := by decide +kernel
theorem dX8_evenCrack_82 : decode cX8_evenCrack 82 = .ok (.iconst 1, 1) := by decide +kernel
theorem dX8_evenCrack_83 : decode cX8_evenCrack 83 = .ok (.goto 4, 3) := by decide +kernel
theorem dX8_evenCrack_86 : decode cX8_evenCrack 86 = .ok (.iconst 0, 1) := by decide +kernel
theorem dX8_evenCrack_87 : decode cX8_evenCrack 87 = .ok (.istore 7, 2) := by decide +kernel
theorem dX8_evenCrack_89 : decode cX8_evenCrack 89 = .ok (.iload 5, 2) := by decide +kernel
theorem dX8_evenCrack_91 : decode cX8_evenCrack 91 = .ok (.aload_n 0, 1) := by decide +kernel
theorem dX8_evenCrack_92 : decode cX8_evenCrack 92 = .ok (.iload_n 1, 1) := by decide +kernel
theorem dX8_evenCrack_93 : decode cX8_evenCrack 93 = .ok (.iconst 0, 1) := by decide +kernel
theorem dX8_evenCrack_94 : decode cX8_evenCrack 94 = .ok (.invokevirtual 150, 3) := by decide +kernel
theorem dX8_evenCrack_97 : decode cX8_evenCrack 97 = .ok (.if_icmp .le 17, 3) := by decide +kernel
theorem dX8_evenCrack_100 : decode cX8_evenCrack 100 = .ok (.iload 7, 2) := by decide +kernel
theorem dX8_evenCrack_102 : decode cX8_evenCrack 102 = .ok (.ifCond .ne 6, 3) := by decide +kernel
theorem dX8_evenCrack_105 : decode cX8_evenCrack 105 = .ok (.goto 9, 3) := by decide +kernel
theorem dX8_evenCrack_108 : decode cX8_evenCrack 108 = .ok (.iload 5, 2) := by decide +kernel
theorem dX8_evenCrack_110 : decode cX8_evenCrack 110 = .ok (.istore_n 2, 1) := by decide +kernel
theorem dX8_evenCrack_111 : decode cX8_evenCrack 111 = .ok (.iload 6, 2) := by decide +kernel
theorem dX8_evenCrack_113 : decode cX8_evenCrack 113 = .ok (.istore_n 3, 1) := by decide +kernel
theorem dX8_evenCrack_114 : decode cX8_evenCrack 114 = .ok (.iinc 4 1, 3) := by decide +kernel
theorem dX8_evenCrack_117 : decode cX8_evenCrack 117 = .ok (.goto (-92), 3) := by decide +kernel
theorem dX8_evenCrack_120 : decode cX8_evenCrack 120 = .ok (.aload_n 0, 1) := by decide +kernel
theorem dX8_evenCrack_121 : decode cX8_evenCrack 121 = .ok (.iload_n 2, 1) := by decide +kernel
theorem dX8_evenCrack_122 : decode cX8_evenCrack 122 = .ok (.iconst (-1), 1) := by decide +kernel
theorem dX8_evenCrack_123 : decode cX8_evenCrack 123 = .ok (.if_icmp .ne 7, 3) := by decide +kernel
theorem dX8_evenCrack_126 : decode cX8_evenCrack 126 = .ok (.iconst 1, 1) := by decide +kernel
theorem dX8_evenCrack_127 : decode cX8_evenCrack 127 = .ok (.goto 4, 3) := by decide +kernel
theorem dX8_evenCrack_130 : decode cX8_evenCrack 130 = .ok (.iconst 0, 1) := by decide +kernel
theorem dX8_evenCrack_131 : decode cX8_evenCrack 131 = .ok (.putfield 45, 3) := by decide +kernel
theorem dX8_evenCrack_134 : decode cX8_evenCrack 134 = .ok (.aload_n 0, 1) := by decide +kernel
theorem dX8_evenCrack_135 : decode cX8_evenCrack 135 = .ok (.getfield 45, 3) := by decide +kernel
theorem dX8_evenCrack_138 : decode cX8_evenCrack 138 = .ok (.ifCond .le 7, 3) := by decide +kernel
theorem dX8_evenCrack_141 : decode cX8_evenCrack 141 = .ok (.iconst 0, 1) := by decide +kernel
theorem dX8_evenCrack_142 : decode cX8_evenCrack 142 = .ok (.goto 4, 3) := by decide +kernel
theorem dX8_evenCrack_145 : decode cX8_evenCrack 145 = .ok (.iload_n 2, 1) := by decide +kernel
theorem dX8_evenCrack_146 : decode cX8_evenCrack 146 = .ok (.ireturn, 1) := by decide +kernel
set_option maxRecDepth 20000 in
theorem ggX8_drop_X8_isPiece : GoodIn wsX8_drop wsX8_isPiece := goodIn_r _ [6, 7, 8, 9, 5, 10, 29, 30, 31, 32, 33, 34, 35, 36, 37, 38, 39, 40, 41, 42, 43, 44, 45, 46, 47, 48] (by decide +kernel) (by decide +kernel)
set_option maxRecDepth 20000 in
theorem gX8_drop_X8_isPiece : GoodIn wsX8_drop (wsV RX8 256 RX8 yX8_isPiece wsX8_isPiece) := goodIn_app (goodIn_of _ (by decide +kernel)) ggX8_drop_X8_isPiece
set_option maxRecDepth 20000 in
theorem ggX8_drop_X8_keeps : GoodIn wsX8_drop wsX8_keeps := goodIn_r _ [14, 15, 16, 7, 29, 30, 31, 32, 33, 34, 35, 36, 37, 38, 39, 40, 41, 42, 43, 44, 45, 46, 47, 48] (by decide +kernel) (by decide +kernel)
set_option maxRecDepth 20000 in
theorem gX8_drop_X8_keeps : GoodIn wsX8_drop (wsV RX8 147 RX8 yX8_keeps wsX8_keeps) := goodIn_app (goodIn_of _ (by decide +kernel)) ggX8_drop_X8_keeps
set_option maxRecDepth 20000 in
theorem ggX8_drop_X8_joins : GoodIn wsX8_drop wsX8_joins := goodIn_r _ [20, 7, 21, 22, 23, 5, 24, 25, 26, 27, 28, 29, 30, 31, 32, 33, 34, 35, 36, 37, 38, 39, 40, 41, 42, 43, 44, 45, 46, 47, 48] (by decide +kernel) (by decide +kernel)
set_option maxRecDepth 20000 in
theorem gX8_drop_X8_joins : GoodIn wsX8_drop (wsV RX8 228 RX8 yX8_joins wsX8_joins) := goodIn_app (goodIn_of _ (by decide +kernel)) ggX8_drop_X8_joins
set_option maxRecDepth 20000 in
theorem ggX8_drop_X8_of : GoodIn wsX8_drop wsX8_of := goodIn_r _ [24, 7, 29, 30, 31, 32, 33, 34, 35, 36, 37, 38, 39, 40, 41, 42, 43, 44, 45, 46, 47, 48] (by decide +kernel) (by decide +kernel)
set_option maxRecDepth 20000 in
theorem gX8_drop_X8_of : GoodIn wsX8_drop (wsV RX8 150 RX8 yX8_of wsX8_of) := goodIn_app (goodIn_of _ (by decide +kernel)) ggX8_drop_X8_of
theorem dX8_drop_0 : decode cX8_drop 0 = .ok (.aload_n 0, 1) := by decide +kernel
theorem dX8_drop_1 : decode cX8_drop 1 = .ok (.aload_n 0, 1) := by decide +kernel
theorem dX8_drop_2 : decode cX8_drop 2 = .ok (.iload_n 1, 1) := by decide +kernel
theorem dX8_drop_3 : decode cX8_drop 3 = .ok (.invokevirtual 256, 3) := by decide +kernel
theorem dX8_drop_6 : decode cX8_drop 6 = .ok (.ifCond .ne 7, 3) := by decide +kernel
theorem dX8_drop_9 : decode cX8_drop 9 = .ok (.iconst 1, 1) := by decide +kernel
theorem dX8_drop_10 : decode cX8_drop 10 = .ok (.goto 12, 3) := by decide +kernel
theorem dX8_drop_13 : decode cX8_drop 13 = .ok (.iload_n 1, 1) := by decide +kernel
theorem dX8_drop_14 : decode cX8_drop 14 = .ok (.ifCond .ne 7, 3) := by decide +kernel
theorem dX8_drop_17 : decode cX8_drop 17 = .ok (.iconst 2, 1) := by decide +kernel
theorem dX8_drop_18 : decode cX8_drop 18 = .ok (.goto 4, 3) := by decide +kernel
theorem dX8_drop_21 : decode cX8_drop 21 = .ok (.iconst 0, 1) := by decide +kernel
theorem dX8_drop_22 : decode cX8_drop 22 = .ok (.putfield 45, 3) := by decide +kernel
theorem dX8_drop_25 : decode cX8_drop 25 = .ok (.aload_n 0, 1) := by decide +kernel
theorem dX8_drop_26 : decode cX8_drop 26 = .ok (.getfield 45, 3) := by decide +kernel
theorem dX8_drop_29 : decode cX8_drop 29 = .ok (.ifCond .le 5, 3) := by decide +kernel
theorem dX8_drop_32 : decode cX8_drop 32 = .ok (.iconst 0, 1) := by decide +kernel
theorem dX8_drop_33 : decode cX8_drop 33 = .ok (.ireturn, 1) := by decide +kernel
theorem dX8_drop_34 : decode cX8_drop 34 = .ok (.aload_n 0, 1) := by decide +kernel
theorem dX8_drop_35 : decode cX8_drop 35 = .ok (.invokevirtual 147, 3) := by decide +kernel
theorem dX8_drop_38 : decode cX8_drop 38 = .ok (.aload_n 0, 1) := by decide +kernel
theorem dX8_drop_39 : decode cX8_drop 39 = .ok (.iload_n 1, 1) := by decide +kernel
theorem dX8_drop_40 : decode cX8_drop 40 = .ok (.iconst 1, 1) := by decide +kernel
theorem dX8_drop_41 : decode cX8_drop 41 = .ok (.isub, 1) := by decide +kernel
theorem dX8_drop_42 : decode cX8_drop 42 = .ok (.invokevirtual 228, 3) := by decide +kernel
theorem dX8_drop_45 : decode cX8_drop 45 = .ok (.aload_n 0, 1) := by decide +kernel
theorem dX8_drop_46 : decode cX8_drop 46 = .ok (.iload_n 1, 1) := by decide +kernel
theorem dX8_drop_47 : decode cX8_drop 47 = .ok (.iconst 1, 1) := by decide +kernel
theorem dX8_drop_48 : decode cX8_drop 48 = .ok (.isub, 1) := by decide +kernel
theorem dX8_drop_49 : decode cX8_drop 49 = .ok (.iconst 1, 1) := by decide +kernel
theorem dX8_drop_50 : decode cX8_drop 50 = .ok (.invokevirtual 150, 3) := by decide +kernel
theorem dX8_drop_53 : decode cX8_drop 53 = .ok (.ireturn, 1) := by decide +kernel
set_option maxRecDepth 20000 in
theorem ggX8_hottest_X8_of : GoodIn wsX8_hottest wsX8_of := goodIn_r _ [7, 2, 8, 9, 10, 11, 12, 13, 14, 15, 16, 17, 18, 19, 20, 21, 22, 23, 24, 25, 26, 27] (by decide +kernel) (by decide +kernel)
set_option maxRecDepth 20000 in
theorem gX8_hottest_X8_of : GoodIn wsX8_hottest (wsV RX8 150 RX8 yX8_of wsX8_of) := goodIn_app (goodIn_of _ (by decide +kernel)) ggX8_hottest_X8_of
theorem dX8_hottest_0 : decode cX8_hottest 0 = .ok (.aload_n 0, 1) := by decide +kernel
theorem dX8_hottest_1 : decode cX8_hottest 1 = .ok (.iconst 0, 1) := by decide +kernel
theorem dX8_hottest_2 : decode cX8_hottest 2 = .ok (.putfield 45, 3) := by decide +kernel
theorem dX8_hottest_5 : decode cX8_hottest 5 = .ok (.iconst 0, 1) := by decide +kernel
theorem dX8_hottest_6 : decode cX8_hottest 6 = .ok (.istore_n 1, 1) := by decide +kernel
theorem dX8_hottest_7 : decode cX8_hottest 7 = .ok (.iconst 1, 1) := by decide +kernel
theorem dX8_hottest_8 : decode cX8_hottest 8 = .ok (.istore_n 2, 1) := by decide +kernel
theorem dX8_hottest_9 : decode cX8_hottest 9 = .ok (.iload_n 2, 1) := by decide +kernel
theorem dX8_hottest_10 : decode cX8_hottest 10 = .ok (.aload_n 0, 1) := by decide +kernel
theorem dX8_hottest_11 : decode cX8_hottest 11 = .ok (.getfield 7, 3) := by decide +kernel
theorem dX8_hottest_14 : decode cX8_hottest 14 = .ok (.iconst 3, 1) := by decide +kernel
theorem dX8_hottest_15 : decode cX8_hottest 15 = .ok (.iaload, 1) := by decide +kernel
theorem dX8_hottest_16 : decode cX8_hottest 16 = .ok (.if_icmp .ge 30, 3) := by decide +kernel
theorem dX8_hottest_19 : decode cX8_hottest 19 = .ok (.aload_n 0, 1) := by decide +kernel
theorem dX8_hottest_20 : decode cX8_hottest 20 = .ok (.iload_n 2, 1) := by decide +kernel
theorem dX8_hottest_21 : decode cX8_hottest 21 = .ok (.iconst 2, 1) := by decide +kernel
theorem dX8_hottest_22 : decode cX8_hottest 22 = .ok (.invokevirtual 150, 3) := by decide +kernel
theorem dX8_hottest_25 : decode cX8_hottest 25 = .ok (.aload_n 0, 1) := by decide +kernel
theorem dX8_hottest_26 : decode cX8_hottest 26 = .ok (.iload_n 1, 1) := by decide +kernel
theorem dX8_hottest_27 : decode cX8_hottest 27 = .ok (.iconst 2, 1) := by decide +kernel
theorem dX8_hottest_28 : decode cX8_hottest 28 = .ok (.invokevirtual 150, 3) := by decide +kernel
theorem dX8_hottest_31 : decode cX8_hottest 31 = .ok (.if_icmp .le 7, 3) := by decide +kernel
theorem dX8_hottest_34 : decode cX8_hottest 34 = .ok (.iload_n 2, 1) := by decide +kernel
theorem dX8_hottest_35 : decode cX8_hottest 35 = .ok (.goto 4, 3) := by decide +kernel
theorem dX8_hottest_38 : decode cX8_hottest 38 = .ok (.iload_n 1, 1) := by decide +kernel
theorem dX8_hottest_39 : decode cX8_hottest 39 = .ok (.istore_n 1, 1) := by decide +kernel
theorem dX8_hottest_40 : decode cX8_hottest 40 = .ok (.iinc 2 1, 3) := by decide +kernel
theorem dX8_hottest_43 : decode cX8_hottest 43 = .ok (.goto (-34), 3) := by decide +kernel
theorem dX8_hottest_46 : decode cX8_hottest 46 = .ok (.iload_n 1, 1) := by decide +kernel
theorem dX8_hottest_47 : decode cX8_hottest 47 = .ok (.ireturn, 1) := by decide +kernel
set_option maxRecDepth 20000 in
theorem ggX8_coldestPair_X8_coldest : GoodIn wsX8_coldestPair wsX8_coldest := goodIn_r _ [7, 1, 8, 9, 10, 6, 11, 12, 13, 14, 15, 16, 17, 18, 19, 20, 21, 22, 23, 24, 25, 26, 27, 28, 29, 30, 31] (by decide +kernel) (by decide +kernel)
set_option maxRecDepth 20000 in
theorem gX8_coldestPair_X8_coldest : GoodIn wsX8_coldestPair (wsV RX8 225 RX8 yX8_coldest wsX8_coldest) := goodIn_app (goodIn_of _ (by decide +kernel)) ggX8_coldestPair_X8_coldest
theorem dX8_coldestPair_0 : decode cX8_coldestPair 0 = .ok (.aload_n 0, 1) := by decide +kernel
theorem dX8_coldestPair_1 : decode cX8_coldestPair 1 = .ok (.aload_n 0, 1) := by decide +kernel
theorem dX8_coldestPair_2 : decode cX8_coldestPair 2 = .ok (.getfield 7, 3) := by decide +kernel
theorem dX8_coldestPair_5 : decode cX8_coldestPair 5 = .ok (.iconst 3, 1) := by decide +kernel
theorem dX8_coldestPair_6 : decode cX8_coldestPair 6 = .ok (.iaload, 1) := by decide +kernel
theorem dX8_coldestPair_7 : decode cX8_coldestPair 7 = .ok (.iconst 1, 1) := by decide +kernel
theorem dX8_coldestPair_8 : decode cX8_coldestPair 8 = .ok (.if_icmp .ne 7, 3) := by decide +kernel
theorem dX8_coldestPair_11 : decode cX8_coldestPair 11 = .ok (.iconst 1, 1) := by decide +kernel
theorem dX8_coldestPair_12 : decode cX8_coldestPair 12 = .ok (.goto 4, 3) := by decide +kernel
theorem dX8_coldestPair_15 : decode cX8_coldestPair 15 = .ok (.iconst 0, 1) := by decide +kernel
theorem dX8_coldestPair_16 : decode cX8_coldestPair 16 = .ok (.putfield 45, 3) := by decide +kernel
theorem dX8_coldestPair_19 : decode cX8_coldestPair 19 = .ok (.aload_n 0, 1) := by decide +kernel
theorem dX8_coldestPair_20 : decode cX8_coldestPair 20 = .ok (.getfield 45, 3) := by decide +kernel
theorem dX8_coldestPair_23 : decode cX8_coldestPair 23 = .ok (.ifCond .le 7, 3) := by decide +kernel
theorem dX8_coldestPair_26 : decode cX8_coldestPair 26 = .ok (.iconst 0, 1) := by decide +kernel
theorem dX8_coldestPair_27 : decode cX8_coldestPair 27 = .ok (.goto 7, 3) := by decide +kernel
theorem dX8_coldestPair_30 : decode cX8_coldestPair 30 = .ok (.aload_n 0, 1) := by decide +kernel
theorem dX8_coldestPair_31 : decode cX8_coldestPair 31 = .ok (.invokevirtual 225, 3) := by decide +kernel
theorem dX8_coldestPair_34 : decode cX8_coldestPair 34 = .ok (.ireturn, 1) := by decide +kernel
theorem dX8_says_0 : decode cX8_says 0 = .ok (.aload_n 0, 1) := by decide +kernel
theorem dX8_says_1 : decode cX8_says 1 = .ok (.getfield 32, 3) := by decide +kernel
theorem dX8_says_4 : decode cX8_says 4 = .ok (.aload_n 0, 1) := by decide +kernel
theorem dX8_says_5 : decode cX8_says 5 = .ok (.getfield 268, 3) := by decide +kernel
theorem dX8_says_8 : decode cX8_says 8 = .ok (.iload_n 1, 1) := by decide +kernel
theorem dX8_says_9 : decode cX8_says 9 = .ok (.iastore, 1) := by decide +kernel
theorem dX8_says_10 : decode cX8_says 10 = .ok (.aload_n 0, 1) := by decide +kernel
theorem dX8_says_11 : decode cX8_says 11 = .ok (.dup, 1) := by decide +kernel
theorem dX8_says_12 : decode cX8_says 12 = .ok (.getfield 268, 3) := by decide +kernel
theorem dX8_says_15 : decode cX8_says 15 = .ok (.iconst 1, 1) := by decide +kernel
theorem dX8_says_16 : decode cX8_says 16 = .ok (.iadd, 1) := by decide +kernel
theorem dX8_says_17 : decode cX8_says 17 = .ok (.putfield 268, 3) := by decide +kernel
theorem dX8_says_20 : decode cX8_says 20 = .ok (.return_, 1) := by decide +kernel
set_option maxRecDepth 20000 in
theorem ggX8_saysNumber_X8_says : GoodIn wsX8_saysNumber wsX8_says := goodIn_r _ [5, 6, 7, 8, 9, 10, 11, 12, 13, 14, 15, 16, 17, 18, 19, 20, 21, 22, 23, 24, 25, 26, 27] (by decide +kernel) (by decide +kernel)
set_option maxRecDepth 20000 in
theorem gX8_saysNumber_X8_says : GoodIn wsX8_saysNumber (wsV RX8 271 RX8 yX8_says wsX8_says) := goodIn_app (goodIn_of _ (by decide +kernel)) ggX8_saysNumber_X8_says
theorem dX8_saysNumber_0 : decode cX8_saysNumber 0 = .ok (.iconst 1, 1) := by decide +kernel
theorem dX8_saysNumber_1 : decode cX8_saysNumber 1 = .ok (.istore_n 2, 1) := by decide +kernel
theorem dX8_saysNumber_2 : decode cX8_saysNumber 2 = .ok (.iload_n 1, 1) := by decide +kernel
theorem dX8_saysNumber_3 : decode cX8_saysNumber 3 = .ok (.iload_n 2, 1) := by decide +kernel
theorem dX8_saysNumber_4 : decode cX8_saysNumber 4 = .ok (.idiv, 1) := by decide +kernel
theorem dX8_saysNumber_5 : decode cX8_saysNumber 5 = .ok (.bipush 9, 2) := by decide +kernel
theorem dX8_saysNumber_7 : decode cX8_saysNumber 7 = .ok (.if_icmp .le 11, 3) := by decide +kernel
theorem dX8_saysNumber_10 : decode cX8_saysNumber 10 = .ok (.iload_n 2, 1) := by decide +kernel
theorem dX8_saysNumber_11 : decode cX8_saysNumber 11 = .ok (.bipush 10, 2) := by decide +kernel
theorem dX8_saysNumber_13 : decode cX8_saysNumber 13 = .ok (.imul, 1) := by decide +kernel
theorem dX8_saysNumber_14 : decode cX8_saysNumber 14 = .ok (.istore_n 2, 1) := by decide +kernel
theorem dX8_saysNumber_15 : decode cX8_saysNumber 15 = .ok (.goto (-13), 3) := by decide +kernel
theorem dX8_saysNumber_18 : decode cX8_saysNumber 18 = .ok (.iload_n 2, 1) := by decide +kernel
theorem dX8_saysNumber_19 : decode cX8_saysNumber 19 = .ok (.ifCond .le 24, 3) := by decide +kernel
theorem dX8_saysNumber_22 : decode cX8_saysNumber 22 = .ok (.aload_n 0, 1) := by decide +kernel
theorem dX8_saysNumber_23 : decode cX8_saysNumber 23 = .ok (.bipush 48, 2) := by decide +kernel
theorem dX8_saysNumber_25 : decode cX8_saysNumber 25 = .ok (.iload_n 1, 1) := by decide +kernel
theorem dX8_saysNumber_26 : decode cX8_saysNumber 26 = .ok (.iload_n 2, 1) := by decide +kernel
theorem dX8_saysNumber_27 : decode cX8_saysNumber 27 = .ok (.idiv, 1) := by decide +kernel
theorem dX8_saysNumber_28 : decode cX8_saysNumber 28 = .ok (.bipush 10, 2) := by decide +kernel
theorem dX8_saysNumber_30 : decode cX8_saysNumber 30 = .ok (.irem, 1) := by decide +kernel
theorem dX8_saysNumber_31 : decode cX8_saysNumber 31 = .ok (.iadd, 1) := by decide +kernel
theorem dX8_saysNumber_32 : decode cX8_saysNumber 32 = .ok (.invokevirtual 271, 3) := by decide +kernel
theorem dX8_saysNumber_35 : decode cX8_saysNumber 35 = .ok (.iload_n 2, 1) := by decide +kernel
theorem dX8_saysNumber_36 : decode cX8_saysNumber 36 = .ok (.bipush 10, 2) := by decide +kernel
theorem dX8_saysNumber_38 : decode cX8_saysNumber 38 = .ok (.idiv, 1) := by decide +kernel
theorem dX8_saysNumber_39 : decode cX8_saysNumber 39 = .ok (.istore_n 2, 1) := by decide +kernel
theorem dX8_saysNumber_40 : decode cX8_saysNumber 40 = .ok (.goto (-22), 3) := by decide +kernel
theorem dX8_saysNumber_43 : decode cX8_saysNumber 43 = .ok (.return_, 1) := by decide +kernel
set_option maxRecDepth 20000 in
theorem ggX8_writePieces_X8_says : GoodIn wsX8_writePieces wsX8_says := goodIn_r _ [8, 9, 2, 18, 19, 20, 21, 22, 23, 24, 25, 26, 27, 28, 29, 30, 31, 32, 33, 34, 35, 36, 37] (by decide +kernel) (by decide +kernel)
set_option maxRecDepth 20000 in
theorem gX8_writePieces_X8_says : GoodIn wsX8_writePieces (wsV RX8 271 RX8 yX8_says wsX8_says) := goodIn_app (goodIn_of _ (by decide +kernel)) ggX8_writePieces_X8_says
set_option maxRecDepth 20000 in
theorem ggX8_writePieces_X8_of : GoodIn wsX8_writePieces wsX8_of := goodIn_r _ [13, 3, 18, 19, 20, 21, 22, 23, 24, 25, 26, 27, 28, 29, 30, 31, 32, 33, 34, 35, 36, 37] (by decide +kernel) (by decide +kernel)
set_option maxRecDepth 20000 in
theorem gX8_writePieces_X8_of : GoodIn wsX8_writePieces (wsV RX8 150 RX8 yX8_of wsX8_of) := goodIn_app (goodIn_of _ (by decide +kernel)) ggX8_writePieces_X8_of
set_option maxRecDepth 20000 in
theorem ggX8_writePieces_X8_saysNumber : GoodIn wsX8_writePieces wsX8_saysNumber := goodIn_r _ [17, 4, 5, 6, 7, 8, 9, 2, 18, 19, 20, 21, 22, 23, 24, 25, 26, 27, 28, 29, 30, 31, 32, 33, 34, 35, 36, 37] (by decide +kernel) (by decide +kernel)
set_option maxRecDepth 20000 in
theorem gX8_writePieces_X8_saysNumber : GoodIn wsX8_writePieces (wsV RX8 274 RX8 yX8_saysNumber wsX8_saysNumber) := goodIn_app (goodIn_of _ (by decide +kernel)) ggX8_writePieces_X8_saysNumber
theorem dX8_writePieces_0 : decode cX8_writePieces 0 = .ok (.aload_n 0, 1) := by decide +kernel
theorem dX8_writePieces_1 : decode cX8_writePieces 1 = .ok (.iconst 0, 1) := by decide +kernel
theorem dX8_writePieces_2 : decode cX8_writePieces 2 = .ok (.putfield 45, 3) := by decide +kernel
theorem dX8_writePieces_5 : decode cX8_writePieces 5 = .ok (.aload_n 0, 1) := by decide +kernel
theorem dX8_writePieces_6 : decode cX8_writePieces 6 = .ok (.iconst 0, 1) := by decide +kernel
theorem dX8_writePieces_7 : decode cX8_writePieces 7 = .ok (.putfield 268, 3) := by decide +kernel
theorem dX8_writePieces_10 : decode cX8_writePieces 10 = .ok (.iconst 0, 1) := by decide +kernel
theorem dX8_writePieces_11 : decode cX8_writePieces 11 = .ok (.istore_n 1, 1) := by decide +kernel
theorem dX8_writePieces_12 : decode cX8_writePieces 12 = .ok (.iload_n 1, 1) := by decide +kernel
theorem dX8_writePieces_13 : decode cX8_writePieces 13 = .ok (.aload_n 0, 1) := by decide +kernel
theorem dX8_writePieces_14 : decode cX8_writePieces 14 = .ok (.getfield 7, 3) := by decide +kernel
theorem dX8_writePieces_17 : decode cX8_writePieces 17 = .ok (.iconst 3, 1) := by decide +kernel
theorem dX8_writePieces_18 : decode cX8_writePieces 18 = .ok (.iaload, 1) := by decide +kernel
theorem dX8_writePieces_19 : decode cX8_writePieces 19 = .ok (.if_icmp .ge 76, 3) := by decide +kernel
theorem dX8_writePieces_22 : decode cX8_writePieces 22 = .ok (.iload_n 1, 1) := by decide +kernel
theorem dX8_writePieces_23 : decode cX8_writePieces 23 = .ok (.ifCond .le 9, 3) := by decide +kernel
theorem dX8_writePieces_26 : decode cX8_writePieces 26 = .ok (.aload_n 0, 1) := by decide +kernel
theorem dX8_writePieces_27 : decode cX8_writePieces 27 = .ok (.bipush 32, 2) := by decide +kernel
theorem dX8_writePieces_29 : decode cX8_writePieces 29 = .ok (.invokevirtual 271, 3) := by decide +kernel
theorem dX8_writePieces_32 : decode cX8_writePieces 32 = .ok (.aload_n 0, 1) := by decide +kernel
theorem dX8_writePieces_33 : decode cX8_writePieces 33 = .ok (.aload_n 0, 1) := by decide +kernel
theorem dX8_writePieces_34 : decode cX8_writePieces 34 = .ok (.iload_n 1, 1) := by decide +kernel
theorem dX8_writePieces_35 : decode cX8_writePieces 35 = .ok (.iconst 0, 1) := by decide +kernel
theorem dX8_writePieces_36 : decode cX8_writePieces 36 = .ok (.invokevirtual 150, 3) := by decide +kernel
theorem dX8_writePieces_39 : decode cX8_writePieces 39 = .ok (.invokevirtual 274, 3) := by decide +kernel
theorem dX8_writePieces_42 : decode cX8_writePieces 42 = .ok (.aload_n 0, 1) := by decide +kernel
theorem dX8_writePieces_43 : decode cX8_writePieces 43 = .ok (.bipush 58, 2) := by decide +kernel
theorem dX8_writePieces_45 : decode cX8_writePieces 45 = .ok (.invokevirtual 271, 3) := by decide +kernel
theorem dX8_writePieces_48 : decode cX8_writePieces 48 = .ok (.aload_n 0, 1) := by decide +kernel
theorem dX8_writePieces_49 : decode cX8_writePieces 49 = .ok (.aload_n 0, 1) := by decide +kernel
theorem dX8_writePieces_50 : decode cX8_writePieces 50 = .ok (.iload_n 1, 1) := by decide +kernel
theorem dX8_writePieces_51 : decode cX8_writePieces 51 = .ok (.iconst 1, 1) := by decide +kernel
theorem dX8_writePieces_52 : decode cX8_writePieces 52 = .ok (.invokevirtual 150, 3) := by decide +kernel
theorem dX8_writePieces_55 : decode cX8_writePieces 55 = .ok (.invokevirtual 274, 3) := by decide +kernel
theorem dX8_writePieces_58 : decode cX8_writePieces 58 = .ok (.aload_n 0, 1) := by decide +kernel
theorem dX8_writePieces_59 : decode cX8_writePieces 59 = .ok (.aload_n 0, 1) := by decide +kernel
theorem dX8_writePieces_60 : decode cX8_writePieces 60 = .ok (.iload_n 1, 1) := by decide +kernel
theorem dX8_writePieces_61 : decode cX8_writePieces 61 = .ok (.iconst 3, 1) := by decide +kernel
theorem dX8_writePieces_62 : decode cX8_writePieces 62 = .ok (.invokevirtual 150, 3) := by decide +kernel
theorem dX8_writePieces_65 : decode cX8_writePieces 65 = .ok (.iconst 1, 1) := by decide +kernel
theorem dX8_writePieces_66 : decode cX8_writePieces 66 = .ok (.if_icmp .ne 8, 3) := by decide +kernel
theorem dX8_writePieces_69 : decode cX8_writePieces 69 = .ok (.bipush 115, 2) := by decide +kernel
theorem dX8_writePieces_71 : decode cX8_writePieces 71 = .ok (.goto 5, 3) := by decide +kernel
theorem dX8_writePieces_74 : decode cX8_writePieces 74 = .ok (.bipush 117, 2) := by decide +kernel
theorem dX8_writePieces_76 : decode cX8_writePieces 76 = .ok (.invokevirtual 271, 3) := by decide +kernel
theorem dX8_writePieces_79 : decode cX8_writePieces 79 = .ok (.aload_n 0, 1) := by decide +kernel
theorem dX8_writePieces_80 : decode cX8_writePieces 80 = .ok (.aload_n 0, 1) := by decide +kernel
theorem dX8_writePieces_81 : decode cX8_writePieces 81 = .ok (.iload_n 1, 1) := by decide +kernel
theorem dX8_writePieces_82 : decode cX8_writePieces 82 = .ok (.iconst 2, 1) := by decide +kernel
theorem dX8_writePieces_83 : decode cX8_writePieces 83 = .ok (.invokevirtual 150, 3) := by decide +kernel
theorem dX8_writePieces_86 : decode cX8_writePieces 86 = .ok (.invokevirtual 274, 3) := by decide +kernel
theorem dX8_writePieces_89 : decode cX8_writePieces 89 = .ok (.iinc 1 1, 3) := by decide +kernel
theorem dX8_writePieces_92 : decode cX8_writePieces 92 = .ok (.goto (-80), 3) := by decide +kernel
theorem dX8_writePieces_95 : decode cX8_writePieces 95 = .ok (.aload_n 0, 1) := by decide +kernel
theorem dX8_writePieces_96 : decode cX8_writePieces 96 = .ok (.getfield 268, 3) := by decide +kernel
theorem dX8_writePieces_99 : decode cX8_writePieces 99 = .ok (.ireturn, 1) := by decide +kernel
set_option maxRecDepth 20000 in
theorem ggX8_writtenByte_X8_isIn : GoodIn wsX8_writtenByte wsX8_isIn := goodIn_r _ [7] (by decide +kernel) (by decide +kernel)
set_option maxRecDepth 20000 in
theorem gX8_writtenByte_X8_isIn : GoodIn wsX8_writtenByte (va_wsS RX8 57 yX8_isIn wsX8_isIn) := goodIn_app (goodIn_of _ (by decide +kernel)) ggX8_writtenByte_X8_isIn
theorem dX8_writtenByte_0 : decode cX8_writtenByte 0 = .ok (.aload_n 0, 1) := by decide +kernel
theorem dX8_writtenByte_1 : decode cX8_writtenByte 1 = .ok (.iload_n 1, 1) := by decide +kernel
theorem dX8_writtenByte_2 : decode cX8_writtenByte 2 = .ok (.iconst 0, 1) := by decide +kernel
theorem dX8_writtenByte_3 : decode cX8_writtenByte 3 = .ok (.aload_n 0, 1) := by decide +kernel
theorem dX8_writtenByte_4 : decode cX8_writtenByte 4 = .ok (.getfield 268, 3) := by decide +kernel
theorem dX8_writtenByte_7 : decode cX8_writtenByte 7 = .ok (.iconst 1, 1) := by decide +kernel
theorem dX8_writtenByte_8 : decode cX8_writtenByte 8 = .ok (.isub, 1) := by decide +kernel
theorem dX8_writtenByte_9 : decode cX8_writtenByte 9 = .ok (.invokestatic 57, 3) := by decide +kernel
theorem dX8_writtenByte_12 : decode cX8_writtenByte 12 = .ok (.ifCond .eq 7, 3) := by decide +kernel
theorem dX8_writtenByte_15 : decode cX8_writtenByte 15 = .ok (.iconst 0, 1) := by decide +kernel
theorem dX8_writtenByte_16 : decode cX8_writtenByte 16 = .ok (.goto 4, 3) := by decide +kernel
theorem dX8_writtenByte_19 : decode cX8_writtenByte 19 = .ok (.iconst 1, 1) := by decide +kernel
theorem dX8_writtenByte_20 : decode cX8_writtenByte 20 = .ok (.putfield 45, 3) := by decide +kernel
theorem dX8_writtenByte_23 : decode cX8_writtenByte 23 = .ok (.aload_n 0, 1) := by decide +kernel
theorem dX8_writtenByte_24 : decode cX8_writtenByte 24 = .ok (.getfield 45, 3) := by decide +kernel
theorem dX8_writtenByte_27 : decode cX8_writtenByte 27 = .ok (.ifCond .le 7, 3) := by decide +kernel
theorem dX8_writtenByte_30 : decode cX8_writtenByte 30 = .ok (.iconst 0, 1) := by decide +kernel
theorem dX8_writtenByte_31 : decode cX8_writtenByte 31 = .ok (.goto 9, 3) := by decide +kernel
theorem dX8_writtenByte_34 : decode cX8_writtenByte 34 = .ok (.aload_n 0, 1) := by decide +kernel
theorem dX8_writtenByte_35 : decode cX8_writtenByte 35 = .ok (.getfield 32, 3) := by decide +kernel
theorem dX8_writtenByte_38 : decode cX8_writtenByte 38 = .ok (.iload_n 1, 1) := by decide +kernel
theorem dX8_writtenByte_39 : decode cX8_writtenByte 39 = .ok (.iaload, 1) := by decide +kernel
theorem dX8_writtenByte_40 : decode cX8_writtenByte 40 = .ok (.ireturn, 1) := by decide +kernel
theorem dJ9_abs_0f7a4_0 : decode cJ9_abs_0f7a4 0 = .ok (.iload_n 0, 1) := by decide +kernel
theorem dJ9_abs_0f7a4_1 : decode cJ9_abs_0f7a4 1 = .ok (.ifCond .ge 8, 3) := by decide +kernel
theorem dJ9_abs_0f7a4_4 : decode cJ9_abs_0f7a4 4 = .ok (.iload_n 0, 1) := by decide +kernel
theorem dJ9_abs_0f7a4_5 : decode cJ9_abs_0f7a4 5 = .ok (.ineg, 1) := by decide +kernel
theorem dJ9_abs_0f7a4_6 : decode cJ9_abs_0f7a4 6 = .ok (.goto 4, 3) := by decide +kernel
theorem dJ9_abs_0f7a4_9 : decode cJ9_abs_0f7a4 9 = .ok (.iload_n 0, 1) := by decide +kernel
theorem dJ9_abs_0f7a4_10 : decode cJ9_abs_0f7a4 10 = .ok (.ireturn, 1) := by decide +kernel
theorem dJ9_max_7cf53_0 : decode cJ9_max_7cf53 0 = .ok (.iload_n 0, 1) := by decide +kernel
theorem dJ9_max_7cf53_1 : decode cJ9_max_7cf53 1 = .ok (.iload_n 1, 1) := by decide +kernel
theorem dJ9_max_7cf53_2 : decode cJ9_max_7cf53 2 = .ok (.if_icmp .lt 7, 3) := by decide +kernel
theorem dJ9_max_7cf53_5 : decode cJ9_max_7cf53 5 = .ok (.iload_n 0, 1) := by decide +kernel
theorem dJ9_max_7cf53_6 : decode cJ9_max_7cf53 6 = .ok (.goto 4, 3) := by decide +kernel
theorem dJ9_max_7cf53_9 : decode cJ9_max_7cf53 9 = .ok (.iload_n 1, 1) := by decide +kernel
theorem dJ9_max_7cf53_10 : decode cJ9_max_7cf53 10 = .ok (.ireturn, 1) := by decide +kernel
theorem dJ9_min_7cf53_0 : decode cJ9_min_7cf53 0 = .ok (.iload_n 0, 1) := by decide +kernel
theorem dJ9_min_7cf53_1 : decode cJ9_min_7cf53 1 = .ok (.iload_n 1, 1) := by decide +kernel
theorem dJ9_min_7cf53_2 : decode cJ9_min_7cf53 2 = .ok (.if_icmp .gt 7, 3) := by decide +kernel
theorem dJ9_min_7cf53_5 : decode cJ9_min_7cf53 5 = .ok (.iload_n 0, 1) := by decide +kernel
theorem dJ9_min_7cf53_6 : decode cJ9_min_7cf53 6 = .ok (.goto 4, 3) := by decide +kernel
theorem dJ9_min_7cf53_9 : decode cJ9_min_7cf53 9 = .ok (.iload_n 1, 1) := by decide +kernel
theorem dJ9_min_7cf53_10 : decode cJ9_min_7cf53 10 = .ok (.ireturn, 1) := by decide +kernel
set_option maxRecDepth 20000 in
theorem ggJ0_length_8abf5_J0_coder_7d493 : GoodIn wsJ0_length_8abf5 wsJ0_coder_7d493 := goodIn_r _ [6, 7, 8] (by decide +kernel) (by decide +kernel)
set_option maxRecDepth 20000 in
theorem gJ0_length_8abf5_J0_coder_7d493 : GoodIn wsJ0_length_8abf5 (wsV RJ0 335 RJ0 yJ0_coder_7d493 wsJ0_coder_7d493) := goodIn_app (goodIn_of _ (by decide +kernel)) ggJ0_length_8abf5_J0_coder_7d493
theorem dJ0_length_8abf5_0 : decode cJ0_length_8abf5 0 = .ok (.aload_n 0, 1) := by decide +kernel
theorem dJ0_length_8abf5_1 : decode cJ0_length_8abf5 1 = .ok (.getfield 9, 3) := by decide +kernel
theorem dJ0_length_8abf5_4 : decode cJ0_length_8abf5 4 = .ok (.arraylength, 1) := by decide +kernel
theorem dJ0_length_8abf5_5 : decode cJ0_length_8abf5 5 = .ok (.aload_n 0, 1) := by decide +kernel
theorem dJ0_length_8abf5_6 : decode cJ0_length_8abf5 6 = .ok (.invokevirtual 335, 3) := by decide +kernel
theorem dJ0_length_8abf5_9 : decode cJ0_length_8abf5 9 = .ok (.ishr, 1) := by decide +kernel
theorem dJ0_length_8abf5_10 : decode cJ0_length_8abf5 10 = .ok (.ireturn, 1) := by decide +kernel
set_option maxRecDepth 20000 in
theorem ggJ0_charAt_5068e_J0_isLatin1_aae02 : GoodIn wsJ0_charAt_5068e wsJ0_isLatin1_aae02 := goodIn_r _ [6, 7, 8] (by decide +kernel) (by decide +kernel)
set_option maxRecDepth 20000 in
theorem gJ0_charAt_5068e_J0_isLatin1_aae02 : GoodIn wsJ0_charAt_5068e (wsV RJ0 492 RJ0 yJ0_isLatin1_aae02 wsJ0_isLatin1_aae02) := goodIn_app (goodIn_of _ (by decide +kernel)) ggJ0_charAt_5068e_J0_isLatin1_aae02
set_option maxRecDepth 20000 in
theorem ggJ0_charAt_5068e_J1_charAt_3b067 : GoodIn wsJ0_charAt_5068e wsJ1_charAt_3b067 := goodIn_r _ [12, 13, 14, 5, 15, 16, 17, 18, 19, 20] (by decide +kernel) (by decide +kernel)
set_option maxRecDepth 20000 in
theorem gJ0_charAt_5068e_J1_charAt_3b067 : GoodIn wsJ0_charAt_5068e (va_wsS RJ0 495 yJ1_charAt_3b067 wsJ1_charAt_3b067) := goodIn_app (goodIn_of _ (by decide +kernel)) ggJ0_charAt_5068e_J1_charAt_3b067
set_option maxRecDepth 20000 in
theorem ggJ0_charAt_5068e_J2_charAt_3b067 : GoodIn wsJ0_charAt_5068e wsJ2_charAt_3b067 := goodIn_r _ [24, 25, 26, 23, 27, 28, 29, 30, 31, 14, 5, 15, 16, 17, 18, 19, 20, 32, 33, 34, 35, 36, 37] (by decide +kernel) (by decide +kernel)
set_option maxRecDepth 20000 in
theorem gJ0_charAt_5068e_J2_charAt_3b067 : GoodIn wsJ0_charAt_5068e (va_wsS RJ0 498 yJ2_charAt_3b067 wsJ2_charAt_3b067) := goodIn_app (goodIn_of _ (by decide +kernel)) ggJ0_charAt_5068e_J2_charAt_3b067
theorem dJ0_charAt_5068e_0 : decode cJ0_charAt_5068e 0 = .ok (.aload_n 0, 1) := by decide +kernel
theorem dJ0_charAt_5068e_1 : decode cJ0_charAt_5068e 1 = .ok (.invokevirtual 492, 3) := by decide +kernel
theorem dJ0_charAt_5068e_4 : decode cJ0_charAt_5068e 4 = .ok (.ifCond .eq 12, 3) := by decide +kernel
theorem dJ0_charAt_5068e_7 : decode cJ0_charAt_5068e 7 = .ok (.aload_n 0, 1) := by decide +kernel
theorem dJ0_charAt_5068e_8 : decode cJ0_charAt_5068e 8 = .ok (.getfield 9, 3) := by decide +kernel
theorem dJ0_charAt_5068e_11 : decode cJ0_charAt_5068e 11 = .ok (.iload_n 1, 1) := by decide +kernel
theorem dJ0_charAt_5068e_12 : decode cJ0_charAt_5068e 12 = .ok (.invokestatic 495, 3) := by decide +kernel
theorem dJ0_charAt_5068e_15 : decode cJ0_charAt_5068e 15 = .ok (.ireturn, 1) := by decide +kernel
theorem dJ0_charAt_5068e_16 : decode cJ0_charAt_5068e 16 = .ok (.aload_n 0, 1) := by decide +kernel
theorem dJ0_charAt_5068e_17 : decode cJ0_charAt_5068e 17 = .ok (.getfield 9, 3) := by decide +kernel
theorem dJ0_charAt_5068e_20 : decode cJ0_charAt_5068e 20 = .ok (.iload_n 1, 1) := by decide +kernel
theorem dJ0_charAt_5068e_21 : decode cJ0_charAt_5068e 21 = .ok (.invokestatic 498, 3) := by decide +kernel
theorem dJ0_charAt_5068e_24 : decode cJ0_charAt_5068e 24 = .ok (.ireturn, 1) := by decide +kernel
theorem dJ0_coder_7d493_0 : decode cJ0_coder_7d493 0 = .ok (.getstatic 38, 3) := by decide +kernel
theorem dJ0_coder_7d493_3 : decode cJ0_coder_7d493 3 = .ok (.ifCond .eq 10, 3) := by decide +kernel
theorem dJ0_coder_7d493_6 : decode cJ0_coder_7d493 6 = .ok (.aload_n 0, 1) := by decide +kernel
theorem dJ0_coder_7d493_7 : decode cJ0_coder_7d493 7 = .ok (.getfield 15, 3) := by decide +kernel
theorem dJ0_coder_7d493_10 : decode cJ0_coder_7d493 10 = .ok (.goto 4, 3) := by decide +kernel
theorem dJ0_coder_7d493_13 : decode cJ0_coder_7d493 13 = .ok (.iconst 1, 1) := by decide +kernel
theorem dJ0_coder_7d493_14 : decode cJ0_coder_7d493 14 = .ok (.ireturn, 1) := by decide +kernel
theorem dJ0_isLatin1_aae02_0 : decode cJ0_isLatin1_aae02 0 = .ok (.getstatic 38, 3) := by decide +kernel
theorem dJ0_isLatin1_aae02_3 : decode cJ0_isLatin1_aae02 3 = .ok (.ifCond .eq 14, 3) := by decide +kernel
theorem dJ0_isLatin1_aae02_6 : decode cJ0_isLatin1_aae02 6 = .ok (.aload_n 0, 1) := by decide +kernel
theorem dJ0_isLatin1_aae02_7 : decode cJ0_isLatin1_aae02 7 = .ok (.getfield 15, 3) := by decide +kernel
theorem dJ0_isLatin1_aae02_10 : decode cJ0_isLatin1_aae02 10 = .ok (.ifCond .ne 7, 3) := by decide +kernel
theorem dJ0_isLatin1_aae02_13 : decode cJ0_isLatin1_aae02 13 = .ok (.iconst 1, 1) := by decide +kernel
theorem dJ0_isLatin1_aae02_14 : decode cJ0_isLatin1_aae02 14 = .ok (.goto 4, 3) := by decide +kernel
theorem dJ0_isLatin1_aae02_17 : decode cJ0_isLatin1_aae02 17 = .ok (.iconst 0, 1) := by decide +kernel
theorem dJ0_isLatin1_aae02_18 : decode cJ0_isLatin1_aae02 18 = .ok (.ireturn, 1) := by decide +kernel
set_option maxRecDepth 20000 in
theorem ggJ0_checkIndex_df160_J3_checkIndex_8e157 : GoodIn wsJ0_checkIndex_df160 wsJ3_checkIndex_8e157 := goodIn_r _ [5] (by decide +kernel) (by decide +kernel)
set_option maxRecDepth 20000 in
theorem gJ0_checkIndex_df160_J3_checkIndex_8e157 : GoodIn wsJ0_checkIndex_df160 (va_wsS RJ0 1059 yJ3_checkIndex_8e157 wsJ3_checkIndex_8e157) := goodIn_app (goodIn_of _ (by decide +kernel)) ggJ0_checkIndex_df160_J3_checkIndex_8e157
theorem dJ0_checkIndex_df160_0 : decode cJ0_checkIndex_df160 0 = .ok (.iload_n 0, 1) := by decide +kernel
theorem dJ0_checkIndex_df160_1 : decode cJ0_checkIndex_df160 1 = .ok (.iload_n 1, 1) := by decide +kernel
theorem dJ0_checkIndex_df160_2 : decode cJ0_checkIndex_df160 2 = .ok (.getstatic 1053, 3) := by decide +kernel
theorem dJ0_checkIndex_df160_5 : decode cJ0_checkIndex_df160 5 = .ok (.invokestatic 1059, 3) := by decide +kernel
theorem dJ0_checkIndex_df160_8 : decode cJ0_checkIndex_df160 8 = .ok (.pop, 1) := by decide +kernel
theorem dJ0_checkIndex_df160_9 : decode cJ0_checkIndex_df160 9 = .ok (.return_, 1) := by decide +kernel
set_option maxRecDepth 20000 in
theorem ggJ1_charAt_3b067_J0_checkIndex_df160 : GoodIn wsJ1_charAt_3b067 wsJ0_checkIndex_df160 := goodIn_r _ [4, 5, 6, 7, 8, 9] (by decide +kernel) (by decide +kernel)
set_option maxRecDepth 20000 in
theorem gJ1_charAt_3b067_J0_checkIndex_df160 : GoodIn wsJ1_charAt_3b067 (va_wsS RJ1 9 yJ0_checkIndex_df160 wsJ0_checkIndex_df160) := goodIn_app (goodIn_of _ (by decide +kernel)) ggJ1_charAt_3b067_J0_checkIndex_df160
theorem dJ1_charAt_3b067_0 : decode cJ1_charAt_3b067 0 = .ok (.iload_n 1, 1) := by decide +kernel
theorem dJ1_charAt_3b067_1 : decode cJ1_charAt_3b067 1 = .ok (.aload_n 0, 1) := by decide +kernel
theorem dJ1_charAt_3b067_2 : decode cJ1_charAt_3b067 2 = .ok (.arraylength, 1) := by decide +kernel
theorem dJ1_charAt_3b067_3 : decode cJ1_charAt_3b067 3 = .ok (.invokestatic 9, 3) := by decide +kernel
theorem dJ1_charAt_3b067_6 : decode cJ1_charAt_3b067 6 = .ok (.aload_n 0, 1) := by decide +kernel
theorem dJ1_charAt_3b067_7 : decode cJ1_charAt_3b067 7 = .ok (.iload_n 1, 1) := by decide +kernel
theorem dJ1_charAt_3b067_8 : decode cJ1_charAt_3b067 8 = .ok (.baload, 1) := by decide +kernel
theorem dJ1_charAt_3b067_9 : decode cJ1_charAt_3b067 9 = .ok (.sipush 255, 3) := by decide +kernel
theorem dJ1_charAt_3b067_12 : decode cJ1_charAt_3b067 12 = .ok (.iand, 1) := by decide +kernel
theorem dJ1_charAt_3b067_13 : decode cJ1_charAt_3b067 13 = .ok (.i2c, 1) := by decide +kernel
theorem dJ1_charAt_3b067_14 : decode cJ1_charAt_3b067 14 = .ok (.ireturn, 1) := by decide +kernel
set_option maxRecDepth 20000 in
theorem ggJ2_getChar_3b067_J2_length_9d52b : GoodIn wsJ2_getChar_3b067 wsJ2_length_9d52b := goodIn_r _ [7] (by decide +kernel) (by decide +kernel)
set_option maxRecDepth 20000 in
theorem gJ2_getChar_3b067_J2_length_9d52b : GoodIn wsJ2_getChar_3b067 (va_wsS RJ2 48 yJ2_length_9d52b wsJ2_length_9d52b) := goodIn_app (goodIn_of _ (by decide +kernel)) ggJ2_getChar_3b067_J2_length_9d52b
theorem dJ2_getChar_3b067_0 : decode cJ2_getChar_3b067 0 = .ok (.getstatic 44, 3) := by decide +kernel
theorem dJ2_getChar_3b067_3 : decode cJ2_getChar_3b067 3 = .ok (.ifCond .ne 25, 3) := by decide +kernel
theorem dJ2_getChar_3b067_6 : decode cJ2_getChar_3b067 6 = .ok (.iload_n 1, 1) := by decide +kernel
theorem dJ2_getChar_3b067_7 : decode cJ2_getChar_3b067 7 = .ok (.ifCond .lt 11, 3) := by decide +kernel
theorem dJ2_getChar_3b067_10 : decode cJ2_getChar_3b067 10 = .ok (.iload_n 1, 1) := by decide +kernel
theorem dJ2_getChar_3b067_11 : decode cJ2_getChar_3b067 11 = .ok (.aload_n 0, 1) := by decide +kernel
theorem dJ2_getChar_3b067_12 : decode cJ2_getChar_3b067 12 = .ok (.invokestatic 48, 3) := by decide +kernel
theorem dJ2_getChar_3b067_15 : decode cJ2_getChar_3b067 15 = .ok (.if_icmp .lt 13, 3) := by decide +kernel
theorem dJ2_getChar_3b067_18 : decode cJ2_getChar_3b067 18 = .ok (.new 52, 3) := by decide +kernel
theorem dJ2_getChar_3b067_21 : decode cJ2_getChar_3b067 21 = .ok (.dup, 1) := by decide +kernel
theorem dJ2_getChar_3b067_22 : decode cJ2_getChar_3b067 22 = .ok (.ldc 54, 2) := by decide +kernel
theorem dJ2_getChar_3b067_24 : decode cJ2_getChar_3b067 24 = .ok (.invokespecial 56, 3) := by decide +kernel
theorem dJ2_getChar_3b067_27 : decode cJ2_getChar_3b067 27 = .ok (.athrow, 1) := by decide +kernel
theorem dJ2_getChar_3b067_28 : decode cJ2_getChar_3b067 28 = .ok (.iload_n 1, 1) := by decide +kernel
theorem dJ2_getChar_3b067_29 : decode cJ2_getChar_3b067 29 = .ok (.iconst 1, 1) := by decide +kernel
theorem dJ2_getChar_3b067_30 : decode cJ2_getChar_3b067 30 = .ok (.ishl, 1) := by decide +kernel
theorem dJ2_getChar_3b067_31 : decode cJ2_getChar_3b067 31 = .ok (.istore_n 1, 1) := by decide +kernel
theorem dJ2_getChar_3b067_32 : decode cJ2_getChar_3b067 32 = .ok (.aload_n 0, 1) := by decide +kernel
theorem dJ2_getChar_3b067_33 : decode cJ2_getChar_3b067 33 = .ok (.iload_n 1, 1) := by decide +kernel
theorem dJ2_getChar_3b067_34 : decode cJ2_getChar_3b067 34 = .ok (.iinc 1 1, 3) := by decide +kernel
theorem dJ2_getChar_3b067_37 : decode cJ2_getChar_3b067 37 = .ok (.baload, 1) := by decide +kernel
theorem dJ2_getChar_3b067_38 : decode cJ2_getChar_3b067 38 = .ok (.sipush 255, 3) := by decide +kernel
theorem dJ2_getChar_3b067_41 : decode cJ2_getChar_3b067 41 = .ok (.iand, 1) := by decide +kernel
theorem dJ2_getChar_3b067_42 : decode cJ2_getChar_3b067 42 = .ok (.getstatic 59, 3) := by decide +kernel
theorem dJ2_getChar_3b067_45 : decode cJ2_getChar_3b067 45 = .ok (.ishl, 1) := by decide +kernel
theorem dJ2_getChar_3b067_46 : decode cJ2_getChar_3b067 46 = .ok (.aload_n 0, 1) := by decide +kernel
theorem dJ2_getChar_3b067_47 : decode cJ2_getChar_3b067 47 = .ok (.iload_n 1, 1) := by decide +kernel
theorem dJ2_getChar_3b067_48 : decode cJ2_getChar_3b067 48 = .ok (.baload, 1) := by decide +kernel
theorem dJ2_getChar_3b067_49 : decode cJ2_getChar_3b067 49 = .ok (.sipush 255, 3) := by decide +kernel
theorem dJ2_getChar_3b067_52 : decode cJ2_getChar_3b067 52 = .ok (.iand, 1) := by decide +kernel
theorem dJ2_getChar_3b067_53 : decode cJ2_getChar_3b067 53 = .ok (.getstatic 63, 3) := by decide +kernel
theorem dJ2_getChar_3b067_56 : decode cJ2_getChar_3b067 56 = .ok (.ishl, 1) := by decide +kernel
theorem dJ2_getChar_3b067_57 : decode cJ2_getChar_3b067 57 = .ok (.ior, 1) := by decide +kernel
theorem dJ2_getChar_3b067_58 : decode cJ2_getChar_3b067 58 = .ok (.i2c, 1) := by decide +kernel
theorem dJ2_getChar_3b067_59 : decode cJ2_getChar_3b067 59 = .ok (.ireturn, 1) := by decide +kernel
theorem dJ2_length_9d52b_0 : decode cJ2_length_9d52b 0 = .ok (.aload_n 0, 1) := by decide +kernel
theorem dJ2_length_9d52b_1 : decode cJ2_length_9d52b 1 = .ok (.arraylength, 1) := by decide +kernel
theorem dJ2_length_9d52b_2 : decode cJ2_length_9d52b 2 = .ok (.iconst 1, 1) := by decide +kernel
theorem dJ2_length_9d52b_3 : decode cJ2_length_9d52b 3 = .ok (.ishr, 1) := by decide +kernel
theorem dJ2_length_9d52b_4 : decode cJ2_length_9d52b 4 = .ok (.ireturn, 1) := by decide +kernel
set_option maxRecDepth 20000 in
theorem ggJ2_charAt_3b067_J2_checkIndex_2214a : GoodIn wsJ2_charAt_3b067 wsJ2_checkIndex_2214a := goodIn_r _ [4, 5, 6, 3, 7, 8, 9, 10, 11, 12, 13, 14, 15, 16] (by decide +kernel) (by decide +kernel)
set_option maxRecDepth 20000 in
theorem gJ2_charAt_3b067_J2_checkIndex_2214a : GoodIn wsJ2_charAt_3b067 (va_wsS RJ2 67 yJ2_checkIndex_2214a wsJ2_checkIndex_2214a) := goodIn_app (goodIn_of _ (by decide +kernel)) ggJ2_charAt_3b067_J2_checkIndex_2214a
set_option maxRecDepth 20000 in
theorem ggJ2_charAt_3b067_J2_getChar_3b067 : GoodIn wsJ2_charAt_3b067 wsJ2_getChar_3b067 := goodIn_r _ [19, 20, 21, 22, 5, 6, 3, 7] (by decide +kernel) (by decide +kernel)
set_option maxRecDepth 20000 in
theorem gJ2_charAt_3b067_J2_getChar_3b067 : GoodIn wsJ2_charAt_3b067 (va_wsS RJ2 71 yJ2_getChar_3b067 wsJ2_getChar_3b067) := goodIn_app (goodIn_of _ (by decide +kernel)) ggJ2_charAt_3b067_J2_getChar_3b067
theorem dJ2_charAt_3b067_0 : decode cJ2_charAt_3b067 0 = .ok (.iload_n 1, 1) := by decide +kernel
theorem dJ2_charAt_3b067_1 : decode cJ2_charAt_3b067 1 = .ok (.aload_n 0, 1) := by decide +kernel
theorem dJ2_charAt_3b067_2 : decode cJ2_charAt_3b067 2 = .ok (.invokestatic 67, 3) := by decide +kernel
theorem dJ2_charAt_3b067_5 : decode cJ2_charAt_3b067 5 = .ok (.aload_n 0, 1) := by decide +kernel
theorem dJ2_charAt_3b067_6 : decode cJ2_charAt_3b067 6 = .ok (.iload_n 1, 1) := by decide +kernel
theorem dJ2_charAt_3b067_7 : decode cJ2_charAt_3b067 7 = .ok (.invokestatic 71, 3) := by decide +kernel
theorem dJ2_charAt_3b067_10 : decode cJ2_charAt_3b067 10 = .ok (.ireturn, 1) := by decide +kernel
set_option maxRecDepth 20000 in
theorem ggJ2_checkIndex_2214a_J2_length_9d52b : GoodIn wsJ2_checkIndex_2214a wsJ2_length_9d52b := goodIn_r _ [4] (by decide +kernel) (by decide +kernel)
set_option maxRecDepth 20000 in
theorem gJ2_checkIndex_2214a_J2_length_9d52b : GoodIn wsJ2_checkIndex_2214a (va_wsS RJ2 48 yJ2_length_9d52b wsJ2_length_9d52b) := goodIn_app (goodIn_of _ (by decide +kernel)) ggJ2_checkIndex_2214a_J2_length_9d52b
set_option maxRecDepth 20000 in
theorem ggJ2_checkIndex_2214a_J0_checkIndex_df160 : GoodIn wsJ2_checkIndex_2214a wsJ0_checkIndex_df160 := goodIn_r _ [8, 9, 10, 11, 12, 13] (by decide +kernel) (by decide +kernel)
set_option maxRecDepth 20000 in
theorem gJ2_checkIndex_2214a_J0_checkIndex_df160 : GoodIn wsJ2_checkIndex_2214a (va_wsS RJ2 414 yJ0_checkIndex_df160 wsJ0_checkIndex_df160) := goodIn_app (goodIn_of _ (by decide +kernel)) ggJ2_checkIndex_2214a_J0_checkIndex_df160
theorem dJ2_checkIndex_2214a_0 : decode cJ2_checkIndex_2214a 0 = .ok (.iload_n 0, 1) := by decide +kernel
theorem dJ2_checkIndex_2214a_1 : decode cJ2_checkIndex_2214a 1 = .ok (.aload_n 1, 1) := by decide +kernel
theorem dJ2_checkIndex_2214a_2 : decode cJ2_checkIndex_2214a 2 = .ok (.invokestatic 48, 3) := by decide +kernel
theorem dJ2_checkIndex_2214a_5 : decode cJ2_checkIndex_2214a 5 = .ok (.invokestatic 414, 3) := by decide +kernel
theorem dJ2_checkIndex_2214a_8 : decode cJ2_checkIndex_2214a 8 = .ok (.return_, 1) := by decide +kernel
theorem dJ3_checkIndex_8e157_0 : decode cJ3_checkIndex_8e157 0 = .ok (.iload_n 0, 1) := by decide +kernel
theorem dJ3_checkIndex_8e157_1 : decode cJ3_checkIndex_8e157 1 = .ok (.ifCond .lt 8, 3) := by decide +kernel
theorem dJ3_checkIndex_8e157_4 : decode cJ3_checkIndex_8e157 4 = .ok (.iload_n 0, 1) := by decide +kernel
theorem dJ3_checkIndex_8e157_5 : decode cJ3_checkIndex_8e157 5 = .ok (.iload_n 1, 1) := by decide +kernel
theorem dJ3_checkIndex_8e157_6 : decode cJ3_checkIndex_8e157 6 = .ok (.if_icmp .lt 10, 3) := by decide +kernel
theorem dJ3_checkIndex_8e157_9 : decode cJ3_checkIndex_8e157 9 = .ok (.aload_n 2, 1) := by decide +kernel
theorem dJ3_checkIndex_8e157_10 : decode cJ3_checkIndex_8e157 10 = .ok (.iload_n 0, 1) := by decide +kernel
theorem dJ3_checkIndex_8e157_11 : decode cJ3_checkIndex_8e157 11 = .ok (.iload_n 1, 1) := by decide +kernel
theorem dJ3_checkIndex_8e157_12 : decode cJ3_checkIndex_8e157 12 = .ok (.invokestatic 95, 3) := by decide +kernel
theorem dJ3_checkIndex_8e157_15 : decode cJ3_checkIndex_8e157 15 = .ok (.athrow, 1) := by decide +kernel
theorem dJ3_checkIndex_8e157_16 : decode cJ3_checkIndex_8e157 16 = .ok (.iload_n 0, 1) := by decide +kernel
theorem dJ3_checkIndex_8e157_17 : decode cJ3_checkIndex_8e157 17 = .ok (.ireturn, 1) := by decide +kernel
set_option maxRecDepth 20000 in
theorem ggL_append_X7_append : GoodIn wsL_append wsX7_append := goodIn_ca (goodIn_r _ [6, 7, 8, 9, 10, 11, 12, 13, 14, 15, 16, 17, 18, 19, 20, 21, 22, 23, 24, 25, 26, 27, 28, 29, 30, 31, 32] (by decide +kernel) (by decide +kernel)) (goodIn_sub (fun _ h => List.mem_cons_of_mem _ (List.mem_append_right _ h)) (by decide +kernel))
set_option maxRecDepth 20000 in
theorem gL_append_X7_append : GoodIn wsL_append (wsV RL 7 RX7 yX7_append wsX7_append) := goodIn_app (goodIn_of _ (by decide +kernel)) ggL_append_X7_append
theorem dL_append_0 : decode cL_append 0 = .ok (.aload 6, 2) := by decide +kernel
theorem dL_append_2 : decode cL_append 2 = .ok (.iconst 0, 1) := by decide +kernel
theorem dL_append_3 : decode cL_append 3 = .ok (.aload_n 0, 1) := by decide +kernel
theorem dL_append_4 : decode cL_append 4 = .ok (.iload_n 1, 1) := by decide +kernel
theorem dL_append_5 : decode cL_append 5 = .ok (.iload_n 2, 1) := by decide +kernel
theorem dL_append_6 : decode cL_append 6 = .ok (.iload_n 3, 1) := by decide +kernel
theorem dL_append_7 : decode cL_append 7 = .ok (.iload 4, 2) := by decide +kernel
theorem dL_append_9 : decode cL_append 9 = .ok (.iload 5, 2) := by decide +kernel
theorem dL_append_11 : decode cL_append 11 = .ok (.invokevirtual 7, 3) := by decide +kernel
theorem dL_append_14 : decode cL_append 14 = .ok (.i2l, 1) := by decide +kernel
theorem dL_append_15 : decode cL_append 15 = .ok (.lastore, 1) := by decide +kernel
theorem dL_append_16 : decode cL_append 16 = .ok (.goto 7, 3) := by decide +kernel
theorem dL_append_19 : decode cL_append 19 = .ok (.astore 7, 2) := by decide +kernel
theorem dL_append_21 : decode cL_append 21 = .ok (.iconst 1, 1) := by decide +kernel
theorem dL_append_22 : decode cL_append 22 = .ok (.ireturn, 1) := by decide +kernel
theorem dL_append_23 : decode cL_append 23 = .ok (.iconst 0, 1) := by decide +kernel
theorem dL_append_24 : decode cL_append 24 = .ok (.ireturn, 1) := by decide +kernel
set_option maxRecDepth 20000 in
theorem ggL_load_X7_load : GoodIn wsL_load wsX7_load := goodIn_ca (goodIn_r _ [6, 7, 8, 9, 10, 11, 12, 13, 14, 15, 5, 16, 17, 18, 19, 20, 21, 22, 23, 24, 25, 26, 27, 28, 29, 30, 31, 32, 33, 34, 35, 36, 37, 38, 39, 40, 41, 42, 43, 44, 45, 46, 47, 48, 49, 50, 51, 52, 53, 54, 55, 56, 57, 58, 59, 60, 61, 62, 63, 64, 65, 66, 67, 68, 69, 70, 71, 72, 73, 74, 75, 76, 77, 78, 79, 80, 81, 82, 83, 84, 85, 86, 87, 88, 89, 90, 91, 92, 93, 94, 95, 96, 97, 98, 99, 100, 101, 102, 103, 104, 105, 106, 107, 108, 109, 110, 111, 112, 113, 114, 115, 116, 117, 118, 119, 120, 121, 122, 123, 124, 125, 126, 127, 128, 129, 130, 131, 132, 133, 134, 135, 136, 137, 138, 139, 140, 141, 142, 143, 144, 145, 146, 147, 148, 149, 150, 151, 152, 153, 154, 155, 156, 157, 158, 159, 160, 161, 162, 163, 164, 165, 166, 167, 168, 169, 170, 171, 172, 173, 174, 175, 176, 177, 178, 179, 180, 181, 182, 183, 184, 185, 186, 187, 188, 189, 190, 191, 192, 193, 194, 195, 196, 197, 198, 199, 200, 201, 202, 203, 204, 205, 206, 207, 208, 209, 210, 211, 212, 213, 214, 215, 216, 217, 218, 219, 220, 221, 222, 223, 224, 225, 226, 227, 228, 229, 230, 231, 232, 233, 234, 235, 236, 237, 238, 239, 240, 241, 242, 243, 244, 245, 246, 247, 248, 249, 250, 251, 252, 253, 254, 255, 256, 257, 258, 259, 260, 261, 262, 263, 264, 265, 266, 267, 268, 269, 270, 271, 272, 273, 274, 275, 276, 277, 278, 279, 280, 281, 282, 283, 284, 285, 286, 287, 288, 289, 290, 291, 292, 293, 294, 295, 296, 297, 298, 299, 300, 301, 302, 303, 304, 305, 306, 307, 308, 309, 310, 311, 312, 313, 314, 315, 316, 317, 318, 319] (by decide +kernel) (by decide +kernel)) (goodIn_sub (fun _ h => List.mem_cons_of_mem _ (List.mem_append_right _ h)) (by decide +kernel))
set_option maxRecDepth 20000 in
theorem gL_load_X7_load : GoodIn wsL_load (wsV RL 15 RX7 yX7_load wsX7_load) := goodIn_app (goodIn_of _ (by decide +kernel)) ggL_load_X7_load
theorem dL_load_0 : decode cL_load 0 = .ok (.aload_n 2, 1) := by decide +kernel
theorem dL_load_1 : decode cL_load 1 = .ok (.iconst 0, 1) := by decide +kernel
theorem dL_load_2 : decode cL_load 2 = .ok (.aload_n 0, 1) := by decide +kernel
theorem dL_load_3 : decode cL_load 3 = .ok (.iload_n 1, 1) := by decide +kernel
theorem dL_load_4 : decode cL_load 4 = .ok (.invokevirtual 15, 3) := by decide +kernel
theorem dL_load_7 : decode cL_load 7 = .ok (.i2l, 1) := by decide +kernel
theorem dL_load_8 : decode cL_load 8 = .ok (.lastore, 1) := by decide +kernel
theorem dL_load_9 : decode cL_load 9 = .ok (.goto 6, 3) := by decide +kernel
theorem dL_load_12 : decode cL_load 12 = .ok (.astore_n 3, 1) := by decide +kernel
theorem dL_load_13 : decode cL_load 13 = .ok (.iconst 1, 1) := by decide +kernel
theorem dL_load_14 : decode cL_load 14 = .ok (.ireturn, 1) := by decide +kernel
theorem dL_load_15 : decode cL_load 15 = .ok (.iconst 0, 1) := by decide +kernel
theorem dL_load_16 : decode cL_load 16 = .ok (.ireturn, 1) := by decide +kernel
set_option maxRecDepth 20000 in
theorem ggL_count_X7_count : GoodIn wsL_count wsX7_count := goodIn_ca (goodIn_r _ [6, 7, 8, 9, 10, 11, 12, 13, 14, 15, 16, 17, 18, 19, 20, 21, 22, 23, 24, 25, 26, 27, 28, 29, 30, 31, 32, 33, 34, 35, 36, 37, 38, 39, 40, 41, 42, 43, 44, 45, 46, 47, 48, 49, 50, 51, 52, 53, 54, 55, 5, 56, 57, 58, 59, 60, 61, 62, 63, 64, 65, 66, 67, 68, 69, 70, 71, 72, 73, 74, 75, 76, 77, 78, 79, 80, 81, 82, 83, 84, 85, 86, 87] (by decide +kernel) (by decide +kernel)) (goodIn_sub (fun _ h => List.mem_cons_of_mem _ (List.mem_append_right _ h)) (by decide +kernel))
set_option maxRecDepth 20000 in
theorem gL_count_X7_count : GoodIn wsL_count (wsV RL 21 RX7 yX7_count wsX7_count) := goodIn_app (goodIn_of _ (by decide +kernel)) ggL_count_X7_count
theorem dL_count_0 : decode cL_count 0 = .ok (.aload_n 2, 1) := by decide +kernel
theorem dL_count_1 : decode cL_count 1 = .ok (.iconst 0, 1) := by decide +kernel
theorem dL_count_2 : decode cL_count 2 = .ok (.aload_n 0, 1) := by decide +kernel
theorem dL_count_3 : decode cL_count 3 = .ok (.iload_n 1, 1) := by decide +kernel
theorem dL_count_4 : decode cL_count 4 = .ok (.invokevirtual 21, 3) := by decide +kernel
theorem dL_count_7 : decode cL_count 7 = .ok (.i2l, 1) := by decide +kernel
theorem dL_count_8 : decode cL_count 8 = .ok (.lastore, 1) := by decide +kernel
theorem dL_count_9 : decode cL_count 9 = .ok (.goto 6, 3) := by decide +kernel
theorem dL_count_12 : decode cL_count 12 = .ok (.astore_n 3, 1) := by decide +kernel
theorem dL_count_13 : decode cL_count 13 = .ok (.iconst 1, 1) := by decide +kernel
theorem dL_count_14 : decode cL_count 14 = .ok (.ireturn, 1) := by decide +kernel
theorem dL_count_15 : decode cL_count 15 = .ok (.iconst 0, 1) := by decide +kernel
theorem dL_count_16 : decode cL_count 16 = .ok (.ireturn, 1) := by decide +kernel
set_option maxRecDepth 20000 in
theorem ggL_row_X7_row : GoodIn wsL_row wsX7_row := goodIn_ca (goodIn_ca (goodIn_r _ [7, 8, 9, 10, 11, 12, 13, 14, 15, 6, 16, 17, 18, 19, 20, 21, 22, 23, 24, 25, 26, 27, 28, 29, 30, 31, 32, 33, 34, 35, 36, 37, 38, 39, 40, 41, 42, 43, 44, 45, 46, 47, 48, 49, 50, 51, 52, 53, 54, 55, 56, 57, 58, 59, 60, 61, 62, 63, 64, 65, 66, 67, 68, 69, 70, 71, 72, 73, 74] (by decide +kernel) (by decide +kernel)) (goodIn_sub (fun _ h => List.mem_cons_of_mem _ (List.mem_append_left _ (List.mem_append_right _ h))) (by decide +kernel))) (goodIn_sub (fun _ h => List.mem_cons_of_mem _ (List.mem_append_right _ h)) (by decide +kernel))
set_option maxRecDepth 20000 in
theorem gL_row_X7_row : GoodIn wsL_row (wsV RL 24 RX7 yX7_row wsX7_row) := goodIn_app (goodIn_of _ (by decide +kernel)) ggL_row_X7_row
theorem dL_row_0 : decode cL_row 0 = .ok (.aload_n 3, 1) := by decide +kernel
theorem dL_row_1 : decode cL_row 1 = .ok (.iconst 0, 1) := by decide +kernel
theorem dL_row_2 : decode cL_row 2 = .ok (.aload_n 0, 1) := by decide +kernel
theorem dL_row_3 : decode cL_row 3 = .ok (.iload_n 1, 1) := by decide +kernel
theorem dL_row_4 : decode cL_row 4 = .ok (.iload_n 2, 1) := by decide +kernel
theorem dL_row_5 : decode cL_row 5 = .ok (.invokevirtual 24, 3) := by decide +kernel
theorem dL_row_8 : decode cL_row 8 = .ok (.i2l, 1) := by decide +kernel
theorem dL_row_9 : decode cL_row 9 = .ok (.lastore, 1) := by decide +kernel
theorem dL_row_10 : decode cL_row 10 = .ok (.goto 11, 3) := by decide +kernel
theorem dL_row_13 : decode cL_row 13 = .ok (.astore 4, 2) := by decide +kernel
theorem dL_row_15 : decode cL_row 15 = .ok (.iconst 1, 1) := by decide +kernel
theorem dL_row_16 : decode cL_row 16 = .ok (.ireturn, 1) := by decide +kernel
theorem dL_row_17 : decode cL_row 17 = .ok (.astore 4, 2) := by decide +kernel
theorem dL_row_19 : decode cL_row 19 = .ok (.iconst 2, 1) := by decide +kernel
theorem dL_row_20 : decode cL_row 20 = .ok (.ireturn, 1) := by decide +kernel
theorem dL_row_21 : decode cL_row 21 = .ok (.iconst 0, 1) := by decide +kernel
theorem dL_row_22 : decode cL_row 22 = .ok (.ireturn, 1) := by decide +kernel
set_option maxRecDepth 20000 in
theorem ggL_entry_X7_entry : GoodIn wsL_entry wsX7_entry := goodIn_ca (goodIn_r _ [6, 7, 8, 9, 10, 11, 5, 12, 13, 14, 15, 16, 17, 18, 19, 20, 21, 22, 23, 24, 25, 26, 27, 28, 29, 30, 31, 32, 33, 34, 35, 36, 37, 38, 39, 40, 41, 42, 43, 44, 45, 46] (by decide +kernel) (by decide +kernel)) (goodIn_sub (fun _ h => List.mem_cons_of_mem _ (List.mem_append_right _ h)) (by decide +kernel))
set_option maxRecDepth 20000 in
theorem gL_entry_X7_entry : GoodIn wsL_entry (wsV RL 30 RX7 yX7_entry wsX7_entry) := goodIn_app (goodIn_of _ (by decide +kernel)) ggL_entry_X7_entry
theorem dL_entry_0 : decode cL_entry 0 = .ok (.aload_n 2, 1) := by decide +kernel
theorem dL_entry_1 : decode cL_entry 1 = .ok (.iconst 0, 1) := by decide +kernel
theorem dL_entry_2 : decode cL_entry 2 = .ok (.aload_n 0, 1) := by decide +kernel
theorem dL_entry_3 : decode cL_entry 3 = .ok (.iload_n 1, 1) := by decide +kernel
theorem dL_entry_4 : decode cL_entry 4 = .ok (.invokevirtual 30, 3) := by decide +kernel
theorem dL_entry_7 : decode cL_entry 7 = .ok (.i2l, 1) := by decide +kernel
theorem dL_entry_8 : decode cL_entry 8 = .ok (.lastore, 1) := by decide +kernel
theorem dL_entry_9 : decode cL_entry 9 = .ok (.goto 6, 3) := by decide +kernel
theorem dL_entry_12 : decode cL_entry 12 = .ok (.astore_n 3, 1) := by decide +kernel
theorem dL_entry_13 : decode cL_entry 13 = .ok (.iconst 1, 1) := by decide +kernel
theorem dL_entry_14 : decode cL_entry 14 = .ok (.ireturn, 1) := by decide +kernel
theorem dL_entry_15 : decode cL_entry 15 = .ok (.iconst 0, 1) := by decide +kernel
theorem dL_entry_16 : decode cL_entry 16 = .ok (.ireturn, 1) := by decide +kernel
set_option maxRecDepth 20000 in
theorem ggL_piece_X7_piece : GoodIn wsL_piece wsX7_piece := goodIn_ca (goodIn_ca (goodIn_r _ [7, 8, 9, 10, 11, 12, 13, 14, 6, 15, 16, 17, 18, 19, 20, 21, 22, 23, 24, 25, 26, 27, 28, 29, 30, 31, 32, 33, 34, 35, 36, 37, 38, 39, 40, 41, 42, 43, 44, 45, 46, 47, 48, 49, 50, 51, 52, 53, 54, 55, 56, 57, 58, 59, 60, 61, 62, 63, 64, 65, 66, 67, 68, 69, 70, 71, 72, 73, 74, 75, 76, 77, 78, 79, 80, 81, 82, 83, 84, 85, 86, 87, 88, 89, 90, 91, 92, 93, 94, 95, 96, 97, 98] (by decide +kernel) (by decide +kernel)) (goodIn_sub (fun _ h => List.mem_cons_of_mem _ (List.mem_append_left _ (List.mem_append_right _ h))) (by decide +kernel))) (goodIn_sub (fun _ h => List.mem_cons_of_mem _ (List.mem_append_right _ h)) (by decide +kernel))
set_option maxRecDepth 20000 in
theorem gL_piece_X7_piece : GoodIn wsL_piece (wsV RL 33 RX7 yX7_piece wsX7_piece) := goodIn_app (goodIn_of _ (by decide +kernel)) ggL_piece_X7_piece
theorem dL_piece_0 : decode cL_piece 0 = .ok (.aload_n 3, 1) := by decide +kernel
theorem dL_piece_1 : decode cL_piece 1 = .ok (.iconst 0, 1) := by decide +kernel
theorem dL_piece_2 : decode cL_piece 2 = .ok (.aload_n 0, 1) := by decide +kernel
theorem dL_piece_3 : decode cL_piece 3 = .ok (.iload_n 1, 1) := by decide +kernel
theorem dL_piece_4 : decode cL_piece 4 = .ok (.iload_n 2, 1) := by decide +kernel
theorem dL_piece_5 : decode cL_piece 5 = .ok (.invokevirtual 33, 3) := by decide +kernel
theorem dL_piece_8 : decode cL_piece 8 = .ok (.i2l, 1) := by decide +kernel
theorem dL_piece_9 : decode cL_piece 9 = .ok (.lastore, 1) := by decide +kernel
theorem dL_piece_10 : decode cL_piece 10 = .ok (.goto 11, 3) := by decide +kernel
theorem dL_piece_13 : decode cL_piece 13 = .ok (.astore 4, 2) := by decide +kernel
theorem dL_piece_15 : decode cL_piece 15 = .ok (.iconst 1, 1) := by decide +kernel
theorem dL_piece_16 : decode cL_piece 16 = .ok (.ireturn, 1) := by decide +kernel
theorem dL_piece_17 : decode cL_piece 17 = .ok (.astore 4, 2) := by decide +kernel
theorem dL_piece_19 : decode cL_piece 19 = .ok (.iconst 2, 1) := by decide +kernel
theorem dL_piece_20 : decode cL_piece 20 = .ok (.ireturn, 1) := by decide +kernel
theorem dL_piece_21 : decode cL_piece 21 = .ok (.iconst 0, 1) := by decide +kernel
theorem dL_piece_22 : decode cL_piece 22 = .ok (.ireturn, 1) := by decide +kernel
set_option maxRecDepth 20000 in
theorem ggL_pieceOf_X7_pieceOf : GoodIn wsL_pieceOf wsX7_pieceOf := goodIn_ca (goodIn_r _ [6, 7, 8, 9, 10, 5, 11, 12, 13, 14, 15, 16, 17, 18, 19, 20, 21, 22, 23, 24, 25, 26, 27, 28, 29, 30, 31, 32, 33, 34, 35, 36, 37, 38, 39, 40, 41, 42, 43, 44, 45] (by decide +kernel) (by decide +kernel)) (goodIn_sub (fun _ h => List.mem_cons_of_mem _ (List.mem_append_right _ h)) (by decide +kernel))
set_option maxRecDepth 20000 in
theorem gL_pieceOf_X7_pieceOf : GoodIn wsL_pieceOf (wsV RL 36 RX7 yX7_pieceOf wsX7_pieceOf) := goodIn_app (goodIn_of _ (by decide +kernel)) ggL_pieceOf_X7_pieceOf
theorem dL_pieceOf_0 : decode cL_pieceOf 0 = .ok (.aload_n 2, 1) := by decide +kernel
theorem dL_pieceOf_1 : decode cL_pieceOf 1 = .ok (.iconst 0, 1) := by decide +kernel
theorem dL_pieceOf_2 : decode cL_pieceOf 2 = .ok (.aload_n 0, 1) := by decide +kernel
theorem dL_pieceOf_3 : decode cL_pieceOf 3 = .ok (.iload_n 1, 1) := by decide +kernel
theorem dL_pieceOf_4 : decode cL_pieceOf 4 = .ok (.invokevirtual 36, 3) := by decide +kernel
theorem dL_pieceOf_7 : decode cL_pieceOf 7 = .ok (.i2l, 1) := by decide +kernel
theorem dL_pieceOf_8 : decode cL_pieceOf 8 = .ok (.lastore, 1) := by decide +kernel
theorem dL_pieceOf_9 : decode cL_pieceOf 9 = .ok (.goto 6, 3) := by decide +kernel
theorem dL_pieceOf_12 : decode cL_pieceOf 12 = .ok (.astore_n 3, 1) := by decide +kernel
theorem dL_pieceOf_13 : decode cL_pieceOf 13 = .ok (.iconst 1, 1) := by decide +kernel
theorem dL_pieceOf_14 : decode cL_pieceOf 14 = .ok (.ireturn, 1) := by decide +kernel
theorem dL_pieceOf_15 : decode cL_pieceOf 15 = .ok (.iconst 0, 1) := by decide +kernel
theorem dL_pieceOf_16 : decode cL_pieceOf 16 = .ok (.ireturn, 1) := by decide +kernel
set_option maxRecDepth 20000 in
theorem ggL_pending_X7_pending : GoodIn wsL_pending wsX7_pending := goodIn_ca (goodIn_r _ [6, 7, 8, 9, 10, 5, 11, 12, 13, 14, 15, 16, 17, 18, 19, 20, 21, 22, 23, 24, 25, 26, 27, 28, 29, 30, 31, 32, 33, 34, 35, 36, 37] (by decide +kernel) (by decide +kernel)) (goodIn_sub (fun _ h => List.mem_cons_of_mem _ (List.mem_append_right _ h)) (by decide +kernel))
set_option maxRecDepth 20000 in
theorem gL_pending_X7_pending : GoodIn wsL_pending (wsV RL 39 RX7 yX7_pending wsX7_pending) := goodIn_app (goodIn_of _ (by decide +kernel)) ggL_pending_X7_pending
theorem dL_pending_0 : decode cL_pending 0 = .ok (.aload_n 2, 1) := by decide +kernel
theorem dL_pending_1 : decode cL_pending 1 = .ok (.iconst 0, 1) := by decide +kernel
theorem dL_pending_2 : decode cL_pending 2 = .ok (.aload_n 0, 1) := by decide +kernel
theorem dL_pending_3 : decode cL_pending 3 = .ok (.iload_n 1, 1) := by decide +kernel
theorem dL_pending_4 : decode cL_pending 4 = .ok (.invokevirtual 39, 3) := by decide +kernel
theorem dL_pending_7 : decode cL_pending 7 = .ok (.i2l, 1) := by decide +kernel
theorem dL_pending_8 : decode cL_pending 8 = .ok (.lastore, 1) := by decide +kernel
theorem dL_pending_9 : decode cL_pending 9 = .ok (.goto 6, 3) := by decide +kernel
theorem dL_pending_12 : decode cL_pending 12 = .ok (.astore_n 3, 1) := by decide +kernel
theorem dL_pending_13 : decode cL_pending 13 = .ok (.iconst 1, 1) := by decide +kernel
theorem dL_pending_14 : decode cL_pending 14 = .ok (.ireturn, 1) := by decide +kernel
theorem dL_pending_15 : decode cL_pending 15 = .ok (.iconst 0, 1) := by decide +kernel
theorem dL_pending_16 : decode cL_pending 16 = .ok (.ireturn, 1) := by decide +kernel
set_option maxRecDepth 20000 in
theorem ggL_query_X7_query : GoodIn wsL_query wsX7_query := goodIn_ca (goodIn_r _ [6, 7, 8, 9, 10, 5, 11, 12, 13, 14, 15, 16, 17, 18, 19, 20, 21, 22, 23, 24, 25, 26, 27, 28, 29, 30, 31, 32, 33, 34, 35, 36, 37, 38, 39, 40, 41, 42, 43, 44, 45, 46, 47, 48, 49, 50, 51, 52, 53, 54, 55, 56, 57, 58, 59, 60, 61, 62, 63, 64, 65, 66, 67, 68, 69, 70, 71, 72, 73, 74, 75, 76, 77, 78, 79, 80, 81, 82, 83, 84, 85, 86, 87, 88, 89, 90, 91, 92, 93, 94, 95, 96, 97, 98, 99, 100, 101, 102, 103, 104, 105, 106, 107, 108, 109, 110, 111, 112, 113, 114, 115, 116, 117, 118, 119, 120, 121, 122, 123, 124, 125, 126, 127, 128, 129, 130, 131, 132, 133, 134, 135, 136, 137, 138, 139, 140, 141, 142, 143, 144, 145, 146, 147, 148, 149, 150, 151, 152, 153, 154, 155, 156, 157, 158, 159, 160, 161, 162, 163, 164, 165, 166, 167, 168, 169, 170, 171, 172, 173, 174, 175, 176, 177, 178, 179, 180, 181, 182, 183, 184, 185, 186, 187, 188, 189, 190, 191, 192, 193, 194, 195, 196, 197, 198, 199, 200, 201, 202, 203, 204, 205, 206, 207, 208, 209, 210, 211, 212, 213, 214, 215, 216, 217, 218, 219, 220, 221, 222, 223, 224, 225, 226, 227, 228, 229, 230, 231, 232, 233, 234, 235, 236, 237, 238, 239, 240, 241, 242, 243, 244, 245, 246, 247, 248, 249, 250, 251, 252, 253, 254, 255, 256, 257, 258, 259, 260, 261, 262, 263, 264, 265, 266, 267, 268, 269, 270, 271, 272, 273, 274, 275, 276, 277, 278, 279, 280, 281, 282, 283, 284, 285, 286, 287, 288, 289, 290, 291, 292, 293, 294, 295, 296, 297, 298, 299, 300, 301, 302, 303, 304, 305, 306, 307, 308, 309, 310, 311, 312] (by decide +kernel) (by decide +kernel)) (goodIn_sub (fun _ h => List.mem_cons_of_mem _ (List.mem_append_right _ h)) (by decide +kernel))
set_option maxRecDepth 20000 in
theorem gL_query_X7_query : GoodIn wsL_query (wsV RL 42 RX7 yX7_query wsX7_query) := goodIn_app (goodIn_of _ (by decide +kernel)) ggL_query_X7_query
theorem dL_query_0 : decode cL_query 0 = .ok (.aload_n 3, 1) := by decide +kernel
theorem dL_query_1 : decode cL_query 1 = .ok (.iconst 0, 1) := by decide +kernel
theorem dL_query_2 : decode cL_query 2 = .ok (.aload_n 0, 1) := by decide +kernel
theorem dL_query_3 : decode cL_query 3 = .ok (.iload_n 1, 1) := by decide +kernel
theorem dL_query_4 : decode cL_query 4 = .ok (.iload_n 2, 1) := by decide +kernel
theorem dL_query_5 : decode cL_query 5 = .ok (.invokevirtual 42, 3) := by decide +kernel
theorem dL_query_8 : decode cL_query 8 = .ok (.i2l, 1) := by decide +kernel
theorem dL_query_9 : decode cL_query 9 = .ok (.lastore, 1) := by decide +kernel
theorem dL_query_10 : decode cL_query 10 = .ok (.goto 7, 3) := by decide +kernel
theorem dL_query_13 : decode cL_query 13 = .ok (.astore 4, 2) := by decide +kernel
theorem dL_query_15 : decode cL_query 15 = .ok (.iconst 1, 1) := by decide +kernel
theorem dL_query_16 : decode cL_query 16 = .ok (.ireturn, 1) := by decide +kernel
theorem dL_query_17 : decode cL_query 17 = .ok (.iconst 0, 1) := by decide +kernel
theorem dL_query_18 : decode cL_query 18 = .ok (.ireturn, 1) := by decide +kernel
set_option maxRecDepth 20000 in
theorem ggL_answer_X7_answer : GoodIn wsL_answer wsX7_answer := goodIn_ca (goodIn_ca (goodIn_r _ [7, 8, 9, 10, 11, 12, 13, 14, 6, 15, 16, 17, 18, 19, 20, 21, 22, 23, 24, 25, 26, 27, 28, 29, 30, 31, 32, 33, 34, 35, 36, 37, 38, 39, 40, 41, 42] (by decide +kernel) (by decide +kernel)) (goodIn_sub (fun _ h => List.mem_cons_of_mem _ (List.mem_append_left _ (List.mem_append_right _ h))) (by decide +kernel))) (goodIn_sub (fun _ h => List.mem_cons_of_mem _ (List.mem_append_right _ h)) (by decide +kernel))
set_option maxRecDepth 20000 in
theorem gL_answer_X7_answer : GoodIn wsL_answer (wsV RL 45 RX7 yX7_answer wsX7_answer) := goodIn_app (goodIn_of _ (by decide +kernel)) ggL_answer_X7_answer
theorem dL_answer_0 : decode cL_answer 0 = .ok (.aload_n 2, 1) := by decide +kernel
theorem dL_answer_1 : decode cL_answer 1 = .ok (.iconst 0, 1) := by decide +kernel
theorem dL_answer_2 : decode cL_answer 2 = .ok (.aload_n 0, 1) := by decide +kernel
theorem dL_answer_3 : decode cL_answer 3 = .ok (.iload_n 1, 1) := by decide +kernel
theorem dL_answer_4 : decode cL_answer 4 = .ok (.invokevirtual 45, 3) := by decide +kernel
theorem dL_answer_7 : decode cL_answer 7 = .ok (.i2l, 1) := by decide +kernel
theorem dL_answer_8 : decode cL_answer 8 = .ok (.lastore, 1) := by decide +kernel
theorem dL_answer_9 : decode cL_answer 9 = .ok (.goto 9, 3) := by decide +kernel
theorem dL_answer_12 : decode cL_answer 12 = .ok (.astore_n 3, 1) := by decide +kernel
theorem dL_answer_13 : decode cL_answer 13 = .ok (.iconst 1, 1) := by decide +kernel
theorem dL_answer_14 : decode cL_answer 14 = .ok (.ireturn, 1) := by decide +kernel
theorem dL_answer_15 : decode cL_answer 15 = .ok (.astore_n 3, 1) := by decide +kernel
theorem dL_answer_16 : decode cL_answer 16 = .ok (.iconst 2, 1) := by decide +kernel
theorem dL_answer_17 : decode cL_answer 17 = .ok (.ireturn, 1) := by decide +kernel
theorem dL_answer_18 : decode cL_answer 18 = .ok (.iconst 0, 1) := by decide +kernel
theorem dL_answer_19 : decode cL_answer 19 = .ok (.ireturn, 1) := by decide +kernel
set_option maxRecDepth 20000 in
theorem ggL_asked_X7_asked : GoodIn wsL_asked wsX7_asked := goodIn_ca (goodIn_ca (goodIn_r _ [7, 8, 9, 10, 11, 12, 6, 13, 14, 15, 16, 17, 18, 19, 20, 21, 22, 23, 24, 25, 26, 27, 28, 29, 30, 31, 32, 33, 34, 35, 36, 37, 38, 39, 40, 41, 42, 43, 44, 45, 46, 47, 48, 49, 50, 51, 52, 53, 54, 55, 56, 57, 58, 59, 60, 61, 62, 63, 64, 65, 66, 67, 68, 69, 70, 71, 72, 73, 74, 75, 76, 77, 78, 79, 80, 81, 82, 83, 84, 85, 86, 87, 88, 89, 90, 91, 92, 93, 94, 95, 96, 97, 98, 99, 100, 101, 102, 103, 104, 105, 106, 107, 108, 109, 110, 111, 112, 113, 114, 115, 116, 117, 118, 119, 120, 121, 122, 123, 124, 125, 126, 127, 128, 129, 130, 131, 132, 133, 134, 135, 136, 137, 138, 139, 140, 141, 142, 143, 144, 145, 146, 147, 148, 149, 150, 151, 152, 153, 154, 155, 156, 157, 158, 159, 160, 161, 162, 163, 164, 165, 166, 167, 168, 169, 170, 171, 172, 173, 174, 175, 176, 177, 178, 179, 180, 181, 182, 183, 184, 185, 186, 187, 188, 189, 190, 191, 192, 193, 194, 195, 196, 197, 198, 199, 200, 201, 202, 203, 204, 205, 206, 207, 208, 209, 210, 211, 212, 213, 214, 215, 216, 217, 218, 219, 220, 221, 222, 223, 224, 225, 226, 227, 228, 229, 230, 231, 232, 233, 234, 235, 236, 237, 238, 239, 240, 241, 242, 243, 244, 245, 246, 247, 248, 249, 250, 251, 252, 253, 254, 255, 256, 257, 258, 259, 260, 261, 262, 263, 264, 265, 266, 267, 268, 269, 270, 271, 272, 273, 274, 275, 276, 277, 278, 279, 280, 281, 282, 283, 284, 285, 286, 287, 288, 289, 290, 291, 292, 293, 294, 295, 296, 297, 298, 299, 300, 301, 302, 303, 304, 305, 306, 307, 308, 309, 310, 311, 312, 313, 314, 315, 316] (by decide +kernel) (by decide +kernel)) (goodIn_sub (fun _ h => List.mem_cons_of_mem _ (List.mem_append_left _ (List.mem_append_right _ h))) (by decide +kernel))) (goodIn_sub (fun _ h => List.mem_cons_of_mem _ (List.mem_append_right _ h)) (by decide +kernel))
set_option maxRecDepth 20000 in
theorem gL_asked_X7_asked : GoodIn wsL_asked (wsV RL 50 RX7 yX7_asked wsX7_asked) := goodIn_app (goodIn_of _ (by decide +kernel)) ggL_asked_X7_asked
theorem dL_asked_0 : decode cL_asked 0 = .ok (.aload_n 3, 1) := by decide +kernel
theorem dL_asked_1 : decode cL_asked 1 = .ok (.iconst 0, 1) := by decide +kernel
theorem dL_asked_2 : decode cL_asked 2 = .ok (.aload_n 0, 1) := by decide +kernel
theorem dL_asked_3 : decode cL_asked 3 = .ok (.iload_n 1, 1) := by decide +kernel
theorem dL_asked_4 : decode cL_asked 4 = .ok (.iload_n 2, 1) := by decide +kernel
theorem dL_asked_5 : decode cL_asked 5 = .ok (.invokevirtual 50, 3) := by decide +kernel
theorem dL_asked_8 : decode cL_asked 8 = .ok (.i2l, 1) := by decide +kernel
theorem dL_asked_9 : decode cL_asked 9 = .ok (.lastore, 1) := by decide +kernel
theorem dL_asked_10 : decode cL_asked 10 = .ok (.goto 11, 3) := by decide +kernel
theorem dL_asked_13 : decode cL_asked 13 = .ok (.astore 4, 2) := by decide +kernel
theorem dL_asked_15 : decode cL_asked 15 = .ok (.iconst 1, 1) := by decide +kernel
theorem dL_asked_16 : decode cL_asked 16 = .ok (.ireturn, 1) := by decide +kernel
theorem dL_asked_17 : decode cL_asked 17 = .ok (.astore 4, 2) := by decide +kernel
theorem dL_asked_19 : decode cL_asked 19 = .ok (.iconst 2, 1) := by decide +kernel
theorem dL_asked_20 : decode cL_asked 20 = .ok (.ireturn, 1) := by decide +kernel
theorem dL_asked_21 : decode cL_asked 21 = .ok (.iconst 0, 1) := by decide +kernel
theorem dL_asked_22 : decode cL_asked 22 = .ok (.ireturn, 1) := by decide +kernel
set_option maxRecDepth 20000 in
theorem ggL_nearest_X7_nearest : GoodIn wsL_nearest wsX7_nearest := goodIn_ca (goodIn_r _ [6, 7, 8, 9, 10, 5, 11, 12, 13, 14, 15, 16, 17, 18, 19, 20, 21, 22, 23, 24, 25, 26, 27, 28, 29, 30, 31, 32, 33, 34, 35, 36, 37, 38, 39, 40, 41, 42, 43, 44, 45, 46, 47, 48, 49, 50, 51, 52, 53] (by decide +kernel) (by decide +kernel)) (goodIn_sub (fun _ h => List.mem_cons_of_mem _ (List.mem_append_right _ h)) (by decide +kernel))
set_option maxRecDepth 20000 in
theorem gL_nearest_X7_nearest : GoodIn wsL_nearest (wsV RL 53 RX7 yX7_nearest wsX7_nearest) := goodIn_app (goodIn_of _ (by decide +kernel)) ggL_nearest_X7_nearest
theorem dL_nearest_0 : decode cL_nearest 0 = .ok (.aload_n 3, 1) := by decide +kernel
theorem dL_nearest_1 : decode cL_nearest 1 = .ok (.iconst 0, 1) := by decide +kernel
theorem dL_nearest_2 : decode cL_nearest 2 = .ok (.aload_n 0, 1) := by decide +kernel
theorem dL_nearest_3 : decode cL_nearest 3 = .ok (.iload_n 1, 1) := by decide +kernel
theorem dL_nearest_4 : decode cL_nearest 4 = .ok (.iload_n 2, 1) := by decide +kernel
theorem dL_nearest_5 : decode cL_nearest 5 = .ok (.invokevirtual 53, 3) := by decide +kernel
theorem dL_nearest_8 : decode cL_nearest 8 = .ok (.i2l, 1) := by decide +kernel
theorem dL_nearest_9 : decode cL_nearest 9 = .ok (.lastore, 1) := by decide +kernel
theorem dL_nearest_10 : decode cL_nearest 10 = .ok (.goto 7, 3) := by decide +kernel
theorem dL_nearest_13 : decode cL_nearest 13 = .ok (.astore 4, 2) := by decide +kernel
theorem dL_nearest_15 : decode cL_nearest 15 = .ok (.iconst 1, 1) := by decide +kernel
theorem dL_nearest_16 : decode cL_nearest 16 = .ok (.ireturn, 1) := by decide +kernel
theorem dL_nearest_17 : decode cL_nearest 17 = .ok (.iconst 0, 1) := by decide +kernel
theorem dL_nearest_18 : decode cL_nearest 18 = .ok (.ireturn, 1) := by decide +kernel
set_option maxRecDepth 20000 in
theorem ggL_costOf_X7_costOf : GoodIn wsL_costOf wsX7_costOf := goodIn_ca (goodIn_r _ [6, 7, 8, 5, 9, 10, 11, 12, 13, 14, 15, 16, 17, 18, 19, 20, 21, 22, 23, 24, 25, 26, 27, 28, 29, 30, 31, 32, 33, 34, 35, 36, 37, 38, 39, 40, 41, 42, 43, 44, 45, 46, 47, 48, 49, 50, 51, 52, 53, 54, 55, 56, 57, 58, 59, 60, 61, 62, 63, 64, 65, 66, 67, 68, 69, 70, 71, 72, 73, 74, 75, 76, 77, 78, 79, 80, 81, 82, 83, 84, 85, 86, 87, 88, 89, 90, 91, 92, 93, 94, 95, 96, 97, 98, 99, 100, 101, 102, 103, 104, 105, 106, 107, 108, 109, 110, 111, 112, 113, 114, 115, 116, 117, 118, 119, 120, 121, 122, 123, 124, 125, 126, 127, 128, 129, 130, 131, 132, 133, 134, 135, 136, 137, 138, 139, 140, 141, 142, 143, 144, 145, 146, 147, 148, 149, 150, 151, 152, 153, 154, 155, 156, 157, 158, 159, 160, 161, 162, 163, 164, 165, 166, 167, 168, 169, 170, 171, 172, 173, 174, 175, 176, 177, 178, 179, 180, 181, 182, 183, 184, 185, 186, 187, 188, 189, 190, 191, 192, 193, 194, 195, 196, 197, 198, 199, 200, 201, 202, 203, 204, 205, 206, 207, 208, 209, 210, 211, 212, 213, 214, 215, 216, 217, 218, 219, 220, 221, 222, 223, 224, 225, 226, 227, 228, 229, 230, 231, 232, 233, 234, 235, 236, 237, 238, 239, 240, 241, 242, 243, 244, 245, 246, 247, 248, 249, 250, 251, 252, 253, 254, 255, 256, 257, 258, 259, 260, 261, 262, 263, 264, 265, 266, 267, 268, 269, 270, 271, 272, 273, 274, 275, 276, 277, 278, 279, 280, 281, 282, 283, 284, 285, 286, 287, 288, 289, 290, 291, 292, 293, 294, 295, 296, 297, 298, 299, 300, 301, 302, 303, 304, 305, 306, 307] (by decide +kernel) (by decide +kernel)) (goodIn_sub (fun _ h => List.mem_cons_of_mem _ (List.mem_append_right _ h)) (by decide +kernel))
set_option maxRecDepth 20000 in
theorem gL_costOf_X7_costOf : GoodIn wsL_costOf (wsV RL 56 RX7 yX7_costOf wsX7_costOf) := goodIn_app (goodIn_of _ (by decide +kernel)) ggL_costOf_X7_costOf
theorem dL_costOf_0 : decode cL_costOf 0 = .ok (.aload_n 3, 1) := by decide +kernel
theorem dL_costOf_1 : decode cL_costOf 1 = .ok (.iconst 0, 1) := by decide +kernel
theorem dL_costOf_2 : decode cL_costOf 2 = .ok (.aload_n 0, 1) := by decide +kernel
theorem dL_costOf_3 : decode cL_costOf 3 = .ok (.iload_n 1, 1) := by decide +kernel
theorem dL_costOf_4 : decode cL_costOf 4 = .ok (.iload_n 2, 1) := by decide +kernel
theorem dL_costOf_5 : decode cL_costOf 5 = .ok (.invokevirtual 56, 3) := by decide +kernel
theorem dL_costOf_8 : decode cL_costOf 8 = .ok (.i2l, 1) := by decide +kernel
theorem dL_costOf_9 : decode cL_costOf 9 = .ok (.lastore, 1) := by decide +kernel
theorem dL_costOf_10 : decode cL_costOf 10 = .ok (.goto 7, 3) := by decide +kernel
theorem dL_costOf_13 : decode cL_costOf 13 = .ok (.astore 4, 2) := by decide +kernel
theorem dL_costOf_15 : decode cL_costOf 15 = .ok (.iconst 1, 1) := by decide +kernel
theorem dL_costOf_16 : decode cL_costOf 16 = .ok (.ireturn, 1) := by decide +kernel
theorem dL_costOf_17 : decode cL_costOf 17 = .ok (.iconst 0, 1) := by decide +kernel
theorem dL_costOf_18 : decode cL_costOf 18 = .ok (.ireturn, 1) := by decide +kernel
set_option maxRecDepth 20000 in
theorem ggL_scan_X7_scan : GoodIn wsL_scan wsX7_scan := goodIn_ca (goodIn_r _ [6, 7, 8, 9, 10, 11, 5, 12, 13, 14, 15, 16, 17, 18, 19, 20, 21, 22, 23, 24, 25, 26, 27, 28, 29, 30, 31, 32, 33, 34, 35, 36, 37, 38, 39, 40, 41, 42, 43, 44, 45, 46, 47, 48, 49, 50, 51, 52, 53, 54, 55, 56, 57, 58, 59, 60, 61, 62, 63, 64, 65, 66, 67, 68, 69, 70, 71, 72, 73, 74, 75, 76, 77, 78, 79, 80, 81, 82, 83, 84, 85, 86, 87, 88, 89, 90] (by decide +kernel) (by decide +kernel)) (goodIn_sub (fun _ h => List.mem_cons_of_mem _ (List.mem_append_right _ h)) (by decide +kernel))
set_option maxRecDepth 20000 in
theorem gL_scan_X7_scan : GoodIn wsL_scan (wsV RL 59 RX7 yX7_scan wsX7_scan) := goodIn_app (goodIn_of _ (by decide +kernel)) ggL_scan_X7_scan
theorem dL_scan_0 : decode cL_scan 0 = .ok (.aload 4, 2) := by decide +kernel
