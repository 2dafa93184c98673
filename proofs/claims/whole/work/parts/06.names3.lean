theorem dX7_copyAll_2 : decode cX7_copyAll 2 = .ok (.aload_n 1, 1) := by decide +kernel
theorem dX7_copyAll_3 : decode cX7_copyAll 3 = .ok (.iconst 0, 1) := by decide +kernel
theorem dX7_copyAll_4 : decode cX7_copyAll 4 = .ok (.aload_n 0, 1) := by decide +kernel
theorem dX7_copyAll_5 : decode cX7_copyAll 5 = .ok (.arraylength, 1) := by decide +kernel
theorem dX7_copyAll_6 : decode cX7_copyAll 6 = .ok (.aload_n 1, 1) := by decide +kernel
theorem dX7_copyAll_7 : decode cX7_copyAll 7 = .ok (.arraylength, 1) := by decide +kernel
theorem dX7_copyAll_8 : decode cX7_copyAll 8 = .ok (.invokestatic 283, 3) := by decide +kernel
theorem dX7_copyAll_11 : decode cX7_copyAll 11 = .ok (.invokestatic 288, 3) := by decide +kernel
theorem dX7_copyAll_14 : decode cX7_copyAll 14 = .ok (.return_, 1) := by decide +kernel
set_option maxRecDepth 20000 in
theorem ggX8_init_X8_begins : GoodIn wsX8_init wsX8_begins := goodIn_r _ [17, 6, 25, 26, 27, 28, 29, 30, 31, 32, 33, 34, 35, 36, 37, 38, 39, 40, 41, 42, 43, 44] (by decide +kernel) (by decide +kernel)
set_option maxRecDepth 20000 in
theorem gX8_init_X8_begins : GoodIn wsX8_init (wsV RX8 35 RX8 yX8_begins wsX8_begins) := goodIn_app (goodIn_of _ (by decide +kernel)) ggX8_init_X8_begins
set_option maxRecDepth 20000 in
theorem ggX8_init_X8_sets : GoodIn wsX8_init wsX8_sets := goodIn_r _ [20] (by decide +kernel) (by decide +kernel)
set_option maxRecDepth 20000 in
theorem gX8_init_X8_sets : GoodIn wsX8_init (va_wsS RX8 38 yX8_sets wsX8_sets) := goodIn_app (goodIn_of _ (by decide +kernel)) ggX8_init_X8_sets
set_option maxRecDepth 20000 in
theorem ggX8_init_X8_lays : GoodIn wsX8_init wsX8_lays := goodIn_r _ [24, 5, 25, 26, 27, 28, 29, 30, 31, 32, 33, 34, 35, 36, 37, 38, 39, 40, 41, 42, 43, 44] (by decide +kernel) (by decide +kernel)
set_option maxRecDepth 20000 in
theorem gX8_init_X8_lays : GoodIn wsX8_init (wsV RX8 42 RX8 yX8_lays wsX8_lays) := goodIn_app (goodIn_of _ (by decide +kernel)) ggX8_init_X8_lays
theorem dX8_init_0 : decode cX8_init 0 = .ok (.aload_n 0, 1) := by decide +kernel
theorem dX8_init_1 : decode cX8_init 1 = .ok (.invokespecial 1, 3) := by decide +kernel
theorem dX8_init_4 : decode cX8_init 4 = .ok (.aload_n 0, 1) := by decide +kernel
theorem dX8_init_5 : decode cX8_init 5 = .ok (.sipush 876, 3) := by decide +kernel
theorem dX8_init_8 : decode cX8_init 8 = .ok (.newarray .int, 2) := by decide +kernel
theorem dX8_init_10 : decode cX8_init 10 = .ok (.putfield 7, 3) := by decide +kernel
theorem dX8_init_13 : decode cX8_init 13 = .ok (.aload_n 0, 1) := by decide +kernel
theorem dX8_init_14 : decode cX8_init 14 = .ok (.sipush 876, 3) := by decide +kernel
theorem dX8_init_17 : decode cX8_init 17 = .ok (.newarray .int, 2) := by decide +kernel
theorem dX8_init_19 : decode cX8_init 19 = .ok (.putfield 13, 3) := by decide +kernel
theorem dX8_init_22 : decode cX8_init 22 = .ok (.aload_n 0, 1) := by decide +kernel
theorem dX8_init_23 : decode cX8_init 23 = .ok (.sipush 876, 3) := by decide +kernel
theorem dX8_init_26 : decode cX8_init 26 = .ok (.newarray .int, 2) := by decide +kernel
theorem dX8_init_28 : decode cX8_init 28 = .ok (.putfield 16, 3) := by decide +kernel
theorem dX8_init_31 : decode cX8_init 31 = .ok (.aload_n 0, 1) := by decide +kernel
theorem dX8_init_32 : decode cX8_init 32 = .ok (.sipush 7008, 3) := by decide +kernel
theorem dX8_init_35 : decode cX8_init 35 = .ok (.newarray .int, 2) := by decide +kernel
theorem dX8_init_37 : decode cX8_init 37 = .ok (.putfield 19, 3) := by decide +kernel
theorem dX8_init_40 : decode cX8_init 40 = .ok (.aload_n 0, 1) := by decide +kernel
theorem dX8_init_41 : decode cX8_init 41 = .ok (.sipush 900, 3) := by decide +kernel
theorem dX8_init_44 : decode cX8_init 44 = .ok (.newarray .int, 2) := by decide +kernel
theorem dX8_init_46 : decode cX8_init 46 = .ok (.putfield 22, 3) := by decide +kernel
theorem dX8_init_49 : decode cX8_init 49 = .ok (.aload_n 0, 1) := by decide +kernel
theorem dX8_init_50 : decode cX8_init 50 = .ok (.iconst (-1), 1) := by decide +kernel
theorem dX8_init_51 : decode cX8_init 51 = .ok (.putfield 25, 3) := by decide +kernel
theorem dX8_init_54 : decode cX8_init 54 = .ok (.aload_n 0, 1) := by decide +kernel
theorem dX8_init_55 : decode cX8_init 55 = .ok (.bipush 120, 2) := by decide +kernel
theorem dX8_init_57 : decode cX8_init 57 = .ok (.newarray .int, 2) := by decide +kernel
theorem dX8_init_59 : decode cX8_init 59 = .ok (.putfield 29, 3) := by decide +kernel
theorem dX8_init_62 : decode cX8_init 62 = .ok (.aload_n 0, 1) := by decide +kernel
theorem dX8_init_63 : decode cX8_init 63 = .ok (.sipush 1400, 3) := by decide +kernel
theorem dX8_init_66 : decode cX8_init 66 = .ok (.newarray .int, 2) := by decide +kernel
theorem dX8_init_68 : decode cX8_init 68 = .ok (.putfield 32, 3) := by decide +kernel
theorem dX8_init_71 : decode cX8_init 71 = .ok (.aload_n 0, 1) := by decide +kernel
theorem dX8_init_72 : decode cX8_init 72 = .ok (.invokevirtual 35, 3) := by decide +kernel
theorem dX8_init_75 : decode cX8_init 75 = .ok (.aload_n 0, 1) := by decide +kernel
theorem dX8_init_76 : decode cX8_init 76 = .ok (.getfield 7, 3) := by decide +kernel
theorem dX8_init_79 : decode cX8_init 79 = .ok (.aload_n 0, 1) := by decide +kernel
theorem dX8_init_80 : decode cX8_init 80 = .ok (.getfield 13, 3) := by decide +kernel
theorem dX8_init_83 : decode cX8_init 83 = .ok (.invokestatic 38, 3) := by decide +kernel
theorem dX8_init_86 : decode cX8_init 86 = .ok (.aload_n 0, 1) := by decide +kernel
theorem dX8_init_87 : decode cX8_init 87 = .ok (.invokevirtual 42, 3) := by decide +kernel
theorem dX8_init_90 : decode cX8_init 90 = .ok (.return_, 1) := by decide +kernel
theorem dX8_begins_0 : decode cX8_begins 0 = .ok (.iconst 0, 1) := by decide +kernel
theorem dX8_begins_1 : decode cX8_begins 1 = .ok (.istore_n 1, 1) := by decide +kernel
theorem dX8_begins_2 : decode cX8_begins 2 = .ok (.iload_n 1, 1) := by decide +kernel
theorem dX8_begins_3 : decode cX8_begins 3 = .ok (.sipush 876, 3) := by decide +kernel
theorem dX8_begins_6 : decode cX8_begins 6 = .ok (.if_icmp .ge 16, 3) := by decide +kernel
theorem dX8_begins_9 : decode cX8_begins 9 = .ok (.aload_n 0, 1) := by decide +kernel
theorem dX8_begins_10 : decode cX8_begins 10 = .ok (.getfield 13, 3) := by decide +kernel
theorem dX8_begins_13 : decode cX8_begins 13 = .ok (.iload_n 1, 1) := by decide +kernel
theorem dX8_begins_14 : decode cX8_begins 14 = .ok (.iconst 0, 1) := by decide +kernel
theorem dX8_begins_15 : decode cX8_begins 15 = .ok (.iastore, 1) := by decide +kernel
theorem dX8_begins_16 : decode cX8_begins 16 = .ok (.iinc 1 1, 3) := by decide +kernel
theorem dX8_begins_19 : decode cX8_begins 19 = .ok (.goto (-17), 3) := by decide +kernel
theorem dX8_begins_22 : decode cX8_begins 22 = .ok (.aload_n 0, 1) := by decide +kernel
theorem dX8_begins_23 : decode cX8_begins 23 = .ok (.getfield 13, 3) := by decide +kernel
theorem dX8_begins_26 : decode cX8_begins 26 = .ok (.iconst 4, 1) := by decide +kernel
theorem dX8_begins_27 : decode cX8_begins 27 = .ok (.iconst 3, 1) := by decide +kernel
theorem dX8_begins_28 : decode cX8_begins 28 = .ok (.iastore, 1) := by decide +kernel
theorem dX8_begins_29 : decode cX8_begins 29 = .ok (.aload_n 0, 1) := by decide +kernel
theorem dX8_begins_30 : decode cX8_begins 30 = .ok (.getfield 13, 3) := by decide +kernel
theorem dX8_begins_33 : decode cX8_begins 33 = .ok (.iconst 5, 1) := by decide +kernel
theorem dX8_begins_34 : decode cX8_begins 34 = .ok (.bipush 16, 2) := by decide +kernel
theorem dX8_begins_36 : decode cX8_begins 36 = .ok (.iastore, 1) := by decide +kernel
theorem dX8_begins_37 : decode cX8_begins 37 = .ok (.aload_n 0, 1) := by decide +kernel
theorem dX8_begins_38 : decode cX8_begins 38 = .ok (.getfield 13, 3) := by decide +kernel
theorem dX8_begins_41 : decode cX8_begins 41 = .ok (.bipush 6, 2) := by decide +kernel
theorem dX8_begins_43 : decode cX8_begins 43 = .ok (.bipush 12, 2) := by decide +kernel
theorem dX8_begins_45 : decode cX8_begins 45 = .ok (.iastore, 1) := by decide +kernel
theorem dX8_begins_46 : decode cX8_begins 46 = .ok (.aload_n 0, 1) := by decide +kernel
theorem dX8_begins_47 : decode cX8_begins 47 = .ok (.getfield 13, 3) := by decide +kernel
theorem dX8_begins_50 : decode cX8_begins 50 = .ok (.bipush 7, 2) := by decide +kernel
theorem dX8_begins_52 : decode cX8_begins 52 = .ok (.bipush 8, 2) := by decide +kernel
theorem dX8_begins_54 : decode cX8_begins 54 = .ok (.iastore, 1) := by decide +kernel
theorem dX8_begins_55 : decode cX8_begins 55 = .ok (.return_, 1) := by decide +kernel
theorem dX8_lays_0 : decode cX8_lays 0 = .ok (.aload_n 0, 1) := by decide +kernel
theorem dX8_lays_1 : decode cX8_lays 1 = .ok (.getfield 7, 3) := by decide +kernel
theorem dX8_lays_4 : decode cX8_lays 4 = .ok (.iconst 1, 1) := by decide +kernel
theorem dX8_lays_5 : decode cX8_lays 5 = .ok (.aload_n 0, 1) := by decide +kernel
theorem dX8_lays_6 : decode cX8_lays 6 = .ok (.getfield 7, 3) := by decide +kernel
theorem dX8_lays_9 : decode cX8_lays 9 = .ok (.iconst 0, 1) := by decide +kernel
theorem dX8_lays_10 : decode cX8_lays 10 = .ok (.iaload, 1) := by decide +kernel
theorem dX8_lays_11 : decode cX8_lays 11 = .ok (.iastore, 1) := by decide +kernel
theorem dX8_lays_12 : decode cX8_lays 12 = .ok (.iconst 0, 1) := by decide +kernel
theorem dX8_lays_13 : decode cX8_lays 13 = .ok (.istore_n 1, 1) := by decide +kernel
theorem dX8_lays_14 : decode cX8_lays 14 = .ok (.iload_n 1, 1) := by decide +kernel
theorem dX8_lays_15 : decode cX8_lays 15 = .ok (.aload_n 0, 1) := by decide +kernel
theorem dX8_lays_16 : decode cX8_lays 16 = .ok (.getfield 7, 3) := by decide +kernel
theorem dX8_lays_19 : decode cX8_lays 19 = .ok (.iconst 0, 1) := by decide +kernel
theorem dX8_lays_20 : decode cX8_lays 20 = .ok (.iaload, 1) := by decide +kernel
theorem dX8_lays_21 : decode cX8_lays 21 = .ok (.if_icmp .ge 20, 3) := by decide +kernel
theorem dX8_lays_24 : decode cX8_lays 24 = .ok (.aload_n 0, 1) := by decide +kernel
theorem dX8_lays_25 : decode cX8_lays 25 = .ok (.getfield 7, 3) := by decide +kernel
theorem dX8_lays_28 : decode cX8_lays 28 = .ok (.sipush 380, 3) := by decide +kernel
theorem dX8_lays_31 : decode cX8_lays 31 = .ok (.iload_n 1, 1) := by decide +kernel
theorem dX8_lays_32 : decode cX8_lays 32 = .ok (.iadd, 1) := by decide +kernel
theorem dX8_lays_33 : decode cX8_lays 33 = .ok (.iload_n 1, 1) := by decide +kernel
theorem dX8_lays_34 : decode cX8_lays 34 = .ok (.iastore, 1) := by decide +kernel
theorem dX8_lays_35 : decode cX8_lays 35 = .ok (.iinc 1 1, 3) := by decide +kernel
theorem dX8_lays_38 : decode cX8_lays 38 = .ok (.goto (-24), 3) := by decide +kernel
theorem dX8_lays_41 : decode cX8_lays 41 = .ok (.aload_n 0, 1) := by decide +kernel
theorem dX8_lays_42 : decode cX8_lays 42 = .ok (.getfield 7, 3) := by decide +kernel
theorem dX8_lays_45 : decode cX8_lays 45 = .ok (.iconst 3, 1) := by decide +kernel
theorem dX8_lays_46 : decode cX8_lays 46 = .ok (.iconst 1, 1) := by decide +kernel
theorem dX8_lays_47 : decode cX8_lays 47 = .ok (.iastore, 1) := by decide +kernel
theorem dX8_lays_48 : decode cX8_lays 48 = .ok (.aload_n 0, 1) := by decide +kernel
theorem dX8_lays_49 : decode cX8_lays 49 = .ok (.getfield 7, 3) := by decide +kernel
theorem dX8_lays_52 : decode cX8_lays 52 = .ok (.sipush 541, 3) := by decide +kernel
theorem dX8_lays_55 : decode cX8_lays 55 = .ok (.aload_n 0, 1) := by decide +kernel
theorem dX8_lays_56 : decode cX8_lays 56 = .ok (.getfield 7, 3) := by decide +kernel
theorem dX8_lays_59 : decode cX8_lays 59 = .ok (.iconst 0, 1) := by decide +kernel
theorem dX8_lays_60 : decode cX8_lays 60 = .ok (.iaload, 1) := by decide +kernel
theorem dX8_lays_61 : decode cX8_lays 61 = .ok (.iastore, 1) := by decide +kernel
theorem dX8_lays_62 : decode cX8_lays 62 = .ok (.return_, 1) := by decide +kernel
theorem dX8_sets_0 : decode cX8_sets 0 = .ok (.iconst 0, 1) := by decide +kernel
theorem dX8_sets_1 : decode cX8_sets 1 = .ok (.istore_n 2, 1) := by decide +kernel
theorem dX8_sets_2 : decode cX8_sets 2 = .ok (.iload_n 2, 1) := by decide +kernel
theorem dX8_sets_3 : decode cX8_sets 3 = .ok (.sipush 876, 3) := by decide +kernel
theorem dX8_sets_6 : decode cX8_sets 6 = .ok (.if_icmp .ge 15, 3) := by decide +kernel
theorem dX8_sets_9 : decode cX8_sets 9 = .ok (.aload_n 0, 1) := by decide +kernel
theorem dX8_sets_10 : decode cX8_sets 10 = .ok (.iload_n 2, 1) := by decide +kernel
theorem dX8_sets_11 : decode cX8_sets 11 = .ok (.aload_n 1, 1) := by decide +kernel
theorem dX8_sets_12 : decode cX8_sets 12 = .ok (.iload_n 2, 1) := by decide +kernel
theorem dX8_sets_13 : decode cX8_sets 13 = .ok (.iaload, 1) := by decide +kernel
theorem dX8_sets_14 : decode cX8_sets 14 = .ok (.iastore, 1) := by decide +kernel
theorem dX8_sets_15 : decode cX8_sets 15 = .ok (.iinc 2 1, 3) := by decide +kernel
theorem dX8_sets_18 : decode cX8_sets 18 = .ok (.goto (-16), 3) := by decide +kernel
theorem dX8_sets_21 : decode cX8_sets 21 = .ok (.return_, 1) := by decide +kernel
theorem dX8_thrown_0 : decode cX8_thrown 0 = .ok (.aload_n 0, 1) := by decide +kernel
theorem dX8_thrown_1 : decode cX8_thrown 1 = .ok (.getfield 45, 3) := by decide +kernel
theorem dX8_thrown_4 : decode cX8_thrown 4 = .ok (.ireturn, 1) := by decide +kernel
theorem dX8_isIn_0 : decode cX8_isIn 0 = .ok (.iload_n 0, 1) := by decide +kernel
theorem dX8_isIn_1 : decode cX8_isIn 1 = .ok (.iload_n 1, 1) := by decide +kernel
theorem dX8_isIn_2 : decode cX8_isIn 2 = .ok (.if_icmp .lt 12, 3) := by decide +kernel
theorem dX8_isIn_5 : decode cX8_isIn 5 = .ok (.iload_n 0, 1) := by decide +kernel
theorem dX8_isIn_6 : decode cX8_isIn 6 = .ok (.iload_n 2, 1) := by decide +kernel
theorem dX8_isIn_7 : decode cX8_isIn 7 = .ok (.if_icmp .gt 7, 3) := by decide +kernel
theorem dX8_isIn_10 : decode cX8_isIn 10 = .ok (.iconst 1, 1) := by decide +kernel
theorem dX8_isIn_11 : decode cX8_isIn 11 = .ok (.goto 4, 3) := by decide +kernel
theorem dX8_isIn_14 : decode cX8_isIn 14 = .ok (.iconst 0, 1) := by decide +kernel
theorem dX8_isIn_15 : decode cX8_isIn 15 = .ok (.ireturn, 1) := by decide +kernel
theorem dX8_keeps_0 : decode cX8_keeps 0 = .ok (.aload_n 0, 1) := by decide +kernel
theorem dX8_keeps_1 : decode cX8_keeps 1 = .ok (.getfield 48, 3) := by decide +kernel
theorem dX8_keeps_4 : decode cX8_keeps 4 = .ok (.bipush 8, 2) := by decide +kernel
theorem dX8_keeps_6 : decode cX8_keeps 6 = .ok (.if_icmp .ne 44, 3) := by decide +kernel
theorem dX8_keeps_9 : decode cX8_keeps 9 = .ok (.iconst 0, 1) := by decide +kernel
theorem dX8_keeps_10 : decode cX8_keeps 10 = .ok (.istore_n 1, 1) := by decide +kernel
theorem dX8_keeps_11 : decode cX8_keeps 11 = .ok (.iload_n 1, 1) := by decide +kernel
theorem dX8_keeps_12 : decode cX8_keeps 12 = .ok (.sipush 6132, 3) := by decide +kernel
theorem dX8_keeps_15 : decode cX8_keeps 15 = .ok (.if_icmp .ge 25, 3) := by decide +kernel
theorem dX8_keeps_18 : decode cX8_keeps 18 = .ok (.aload_n 0, 1) := by decide +kernel
theorem dX8_keeps_19 : decode cX8_keeps 19 = .ok (.getfield 19, 3) := by decide +kernel
theorem dX8_keeps_22 : decode cX8_keeps 22 = .ok (.iload_n 1, 1) := by decide +kernel
theorem dX8_keeps_23 : decode cX8_keeps 23 = .ok (.aload_n 0, 1) := by decide +kernel
theorem dX8_keeps_24 : decode cX8_keeps 24 = .ok (.getfield 19, 3) := by decide +kernel
theorem dX8_keeps_27 : decode cX8_keeps 27 = .ok (.iload_n 1, 1) := by decide +kernel
theorem dX8_keeps_28 : decode cX8_keeps 28 = .ok (.sipush 876, 3) := by decide +kernel
theorem dX8_keeps_31 : decode cX8_keeps 31 = .ok (.iadd, 1) := by decide +kernel
theorem dX8_keeps_32 : decode cX8_keeps 32 = .ok (.iaload, 1) := by decide +kernel
theorem dX8_keeps_33 : decode cX8_keeps 33 = .ok (.iastore, 1) := by decide +kernel
theorem dX8_keeps_34 : decode cX8_keeps 34 = .ok (.iinc 1 1, 3) := by decide +kernel
theorem dX8_keeps_37 : decode cX8_keeps 37 = .ok (.goto (-26), 3) := by decide +kernel
theorem dX8_keeps_40 : decode cX8_keeps 40 = .ok (.aload_n 0, 1) := by decide +kernel
theorem dX8_keeps_41 : decode cX8_keeps 41 = .ok (.dup, 1) := by decide +kernel
theorem dX8_keeps_42 : decode cX8_keeps 42 = .ok (.getfield 48, 3) := by decide +kernel
theorem dX8_keeps_45 : decode cX8_keeps 45 = .ok (.iconst 1, 1) := by decide +kernel
theorem dX8_keeps_46 : decode cX8_keeps 46 = .ok (.isub, 1) := by decide +kernel
theorem dX8_keeps_47 : decode cX8_keeps 47 = .ok (.putfield 48, 3) := by decide +kernel
theorem dX8_keeps_50 : decode cX8_keeps 50 = .ok (.iconst 0, 1) := by decide +kernel
theorem dX8_keeps_51 : decode cX8_keeps 51 = .ok (.istore_n 1, 1) := by decide +kernel
theorem dX8_keeps_52 : decode cX8_keeps 52 = .ok (.iload_n 1, 1) := by decide +kernel
theorem dX8_keeps_53 : decode cX8_keeps 53 = .ok (.sipush 876, 3) := by decide +kernel
theorem dX8_keeps_56 : decode cX8_keeps 56 = .ok (.if_icmp .ge 30, 3) := by decide +kernel
theorem dX8_keeps_59 : decode cX8_keeps 59 = .ok (.aload_n 0, 1) := by decide +kernel
theorem dX8_keeps_60 : decode cX8_keeps 60 = .ok (.getfield 19, 3) := by decide +kernel
theorem dX8_keeps_63 : decode cX8_keeps 63 = .ok (.sipush 876, 3) := by decide +kernel
theorem dX8_keeps_66 : decode cX8_keeps 66 = .ok (.aload_n 0, 1) := by decide +kernel
theorem dX8_keeps_67 : decode cX8_keeps 67 = .ok (.getfield 48, 3) := by decide +kernel
theorem dX8_keeps_70 : decode cX8_keeps 70 = .ok (.imul, 1) := by decide +kernel
theorem dX8_keeps_71 : decode cX8_keeps 71 = .ok (.iload_n 1, 1) := by decide +kernel
theorem dX8_keeps_72 : decode cX8_keeps 72 = .ok (.iadd, 1) := by decide +kernel
theorem dX8_keeps_73 : decode cX8_keeps 73 = .ok (.aload_n 0, 1) := by decide +kernel
theorem dX8_keeps_74 : decode cX8_keeps 74 = .ok (.getfield 7, 3) := by decide +kernel
theorem dX8_keeps_77 : decode cX8_keeps 77 = .ok (.iload_n 1, 1) := by decide +kernel
theorem dX8_keeps_78 : decode cX8_keeps 78 = .ok (.iaload, 1) := by decide +kernel
theorem dX8_keeps_79 : decode cX8_keeps 79 = .ok (.iastore, 1) := by decide +kernel
theorem dX8_keeps_80 : decode cX8_keeps 80 = .ok (.iinc 1 1, 3) := by decide +kernel
theorem dX8_keeps_83 : decode cX8_keeps 83 = .ok (.goto (-31), 3) := by decide +kernel
theorem dX8_keeps_86 : decode cX8_keeps 86 = .ok (.aload_n 0, 1) := by decide +kernel
theorem dX8_keeps_87 : decode cX8_keeps 87 = .ok (.dup, 1) := by decide +kernel
theorem dX8_keeps_88 : decode cX8_keeps 88 = .ok (.getfield 48, 3) := by decide +kernel
theorem dX8_keeps_91 : decode cX8_keeps 91 = .ok (.iconst 1, 1) := by decide +kernel
theorem dX8_keeps_92 : decode cX8_keeps 92 = .ok (.iadd, 1) := by decide +kernel
theorem dX8_keeps_93 : decode cX8_keeps 93 = .ok (.putfield 48, 3) := by decide +kernel
theorem dX8_keeps_96 : decode cX8_keeps 96 = .ok (.return_, 1) := by decide +kernel
theorem dX8_undo_0 : decode cX8_undo 0 = .ok (.aload_n 0, 1) := by decide +kernel
theorem dX8_undo_1 : decode cX8_undo 1 = .ok (.aload_n 0, 1) := by decide +kernel
theorem dX8_undo_2 : decode cX8_undo 2 = .ok (.getfield 48, 3) := by decide +kernel
theorem dX8_undo_5 : decode cX8_undo 5 = .ok (.ifCond .ne 7, 3) := by decide +kernel
theorem dX8_undo_8 : decode cX8_undo 8 = .ok (.iconst 1, 1) := by decide +kernel
theorem dX8_undo_9 : decode cX8_undo 9 = .ok (.goto 4, 3) := by decide +kernel
theorem dX8_undo_12 : decode cX8_undo 12 = .ok (.iconst 0, 1) := by decide +kernel
theorem dX8_undo_13 : decode cX8_undo 13 = .ok (.putfield 45, 3) := by decide +kernel
theorem dX8_undo_16 : decode cX8_undo 16 = .ok (.aload_n 0, 1) := by decide +kernel
theorem dX8_undo_17 : decode cX8_undo 17 = .ok (.getfield 45, 3) := by decide +kernel
theorem dX8_undo_20 : decode cX8_undo 20 = .ok (.ifCond .le 5, 3) := by decide +kernel
theorem dX8_undo_23 : decode cX8_undo 23 = .ok (.iconst 0, 1) := by decide +kernel
theorem dX8_undo_24 : decode cX8_undo 24 = .ok (.ireturn, 1) := by decide +kernel
theorem dX8_undo_25 : decode cX8_undo 25 = .ok (.aload_n 0, 1) := by decide +kernel
theorem dX8_undo_26 : decode cX8_undo 26 = .ok (.dup, 1) := by decide +kernel
theorem dX8_undo_27 : decode cX8_undo 27 = .ok (.getfield 48, 3) := by decide +kernel
theorem dX8_undo_30 : decode cX8_undo 30 = .ok (.iconst 1, 1) := by decide +kernel
theorem dX8_undo_31 : decode cX8_undo 31 = .ok (.isub, 1) := by decide +kernel
theorem dX8_undo_32 : decode cX8_undo 32 = .ok (.putfield 48, 3) := by decide +kernel
theorem dX8_undo_35 : decode cX8_undo 35 = .ok (.iconst 0, 1) := by decide +kernel
theorem dX8_undo_36 : decode cX8_undo 36 = .ok (.istore_n 1, 1) := by decide +kernel
theorem dX8_undo_37 : decode cX8_undo 37 = .ok (.iload_n 1, 1) := by decide +kernel
theorem dX8_undo_38 : decode cX8_undo 38 = .ok (.sipush 876, 3) := by decide +kernel
theorem dX8_undo_41 : decode cX8_undo 41 = .ok (.if_icmp .ge 30, 3) := by decide +kernel
theorem dX8_undo_44 : decode cX8_undo 44 = .ok (.aload_n 0, 1) := by decide +kernel
theorem dX8_undo_45 : decode cX8_undo 45 = .ok (.getfield 7, 3) := by decide +kernel
theorem dX8_undo_48 : decode cX8_undo 48 = .ok (.iload_n 1, 1) := by decide +kernel
theorem dX8_undo_49 : decode cX8_undo 49 = .ok (.aload_n 0, 1) := by decide +kernel
theorem dX8_undo_50 : decode cX8_undo 50 = .ok (.getfield 19, 3) := by decide +kernel
theorem dX8_undo_53 : decode cX8_undo 53 = .ok (.sipush 876, 3) := by decide +kernel
theorem dX8_undo_56 : decode cX8_undo 56 = .ok (.aload_n 0, 1) := by decide +kernel
theorem dX8_undo_57 : decode cX8_undo 57 = .ok (.getfield 48, 3) := by decide +kernel
theorem dX8_undo_60 : decode cX8_undo 60 = .ok (.imul, 1) := by decide +kernel
theorem dX8_undo_61 : decode cX8_undo 61 = .ok (.iload_n 1, 1) := by decide +kernel
theorem dX8_undo_62 : decode cX8_undo 62 = .ok (.iadd, 1) := by decide +kernel
theorem dX8_undo_63 : decode cX8_undo 63 = .ok (.iaload, 1) := by decide +kernel
theorem dX8_undo_64 : decode cX8_undo 64 = .ok (.iastore, 1) := by decide +kernel
theorem dX8_undo_65 : decode cX8_undo 65 = .ok (.iinc 1 1, 3) := by decide +kernel
theorem dX8_undo_68 : decode cX8_undo 68 = .ok (.goto (-31), 3) := by decide +kernel
theorem dX8_undo_71 : decode cX8_undo 71 = .ok (.aload_n 0, 1) := by decide +kernel
theorem dX8_undo_72 : decode cX8_undo 72 = .ok (.getfield 48, 3) := by decide +kernel
theorem dX8_undo_75 : decode cX8_undo 75 = .ok (.ireturn, 1) := by decide +kernel
theorem dX8_append_0 : decode cX8_append 0 = .ok (.aload_n 0, 1) := by decide +kernel
theorem dX8_append_1 : decode cX8_append 1 = .ok (.aload_n 0, 1) := by decide +kernel
theorem dX8_append_2 : decode cX8_append 2 = .ok (.getfield 51, 3) := by decide +kernel
theorem dX8_append_5 : decode cX8_append 5 = .ok (.bipush 20, 2) := by decide +kernel
theorem dX8_append_7 : decode cX8_append 7 = .ok (.iadd, 1) := by decide +kernel
theorem dX8_append_8 : decode cX8_append 8 = .ok (.sipush 900, 3) := by decide +kernel
theorem dX8_append_11 : decode cX8_append 11 = .ok (.if_icmp .le 7, 3) := by decide +kernel
theorem dX8_append_14 : decode cX8_append 14 = .ok (.iconst 1, 1) := by decide +kernel
theorem dX8_append_15 : decode cX8_append 15 = .ok (.goto 4, 3) := by decide +kernel
theorem dX8_append_18 : decode cX8_append 18 = .ok (.iconst 0, 1) := by decide +kernel
theorem dX8_append_19 : decode cX8_append 19 = .ok (.putfield 45, 3) := by decide +kernel
theorem dX8_append_22 : decode cX8_append 22 = .ok (.aload_n 0, 1) := by decide +kernel
theorem dX8_append_23 : decode cX8_append 23 = .ok (.getfield 45, 3) := by decide +kernel
theorem dX8_append_26 : decode cX8_append 26 = .ok (.ifCond .le 5, 3) := by decide +kernel
theorem dX8_append_29 : decode cX8_append 29 = .ok (.iconst 0, 1) := by decide +kernel
theorem dX8_append_30 : decode cX8_append 30 = .ok (.ireturn, 1) := by decide +kernel
theorem dX8_append_31 : decode cX8_append 31 = .ok (.iconst 0, 1) := by decide +kernel
theorem dX8_append_32 : decode cX8_append 32 = .ok (.istore 6, 2) := by decide +kernel
theorem dX8_append_34 : decode cX8_append 34 = .ok (.iload 6, 2) := by decide +kernel
theorem dX8_append_36 : decode cX8_append 36 = .ok (.bipush 20, 2) := by decide +kernel
theorem dX8_append_38 : decode cX8_append 38 = .ok (.if_icmp .ge 93, 3) := by decide +kernel
theorem dX8_append_41 : decode cX8_append 41 = .ok (.iload 6, 2) := by decide +kernel
theorem dX8_append_43 : decode cX8_append 43 = .ok (.iconst 4, 1) := by decide +kernel
theorem dX8_append_44 : decode cX8_append 44 = .ok (.if_icmp .ge 7, 3) := by decide +kernel
theorem dX8_append_47 : decode cX8_append 47 = .ok (.iload_n 1, 1) := by decide +kernel
theorem dX8_append_48 : decode cX8_append 48 = .ok (.goto 39, 3) := by decide +kernel
theorem dX8_append_51 : decode cX8_append 51 = .ok (.iload 6, 2) := by decide +kernel
theorem dX8_append_53 : decode cX8_append 53 = .ok (.bipush 8, 2) := by decide +kernel
theorem dX8_append_55 : decode cX8_append 55 = .ok (.if_icmp .ge 7, 3) := by decide +kernel
theorem dX8_append_58 : decode cX8_append 58 = .ok (.iload_n 2, 1) := by decide +kernel
theorem dX8_append_59 : decode cX8_append 59 = .ok (.goto 28, 3) := by decide +kernel
theorem dX8_append_62 : decode cX8_append 62 = .ok (.iload 6, 2) := by decide +kernel
theorem dX8_append_64 : decode cX8_append 64 = .ok (.bipush 12, 2) := by decide +kernel
theorem dX8_append_66 : decode cX8_append 66 = .ok (.if_icmp .ge 7, 3) := by decide +kernel
theorem dX8_append_69 : decode cX8_append 69 = .ok (.iload_n 3, 1) := by decide +kernel
theorem dX8_append_70 : decode cX8_append 70 = .ok (.goto 17, 3) := by decide +kernel
theorem dX8_append_73 : decode cX8_append 73 = .ok (.iload 6, 2) := by decide +kernel
theorem dX8_append_75 : decode cX8_append 75 = .ok (.bipush 16, 2) := by decide +kernel
theorem dX8_append_77 : decode cX8_append 77 = .ok (.if_icmp .ge 8, 3) := by decide +kernel
theorem dX8_append_80 : decode cX8_append 80 = .ok (.iload 4, 2) := by decide +kernel
theorem dX8_append_82 : decode cX8_append 82 = .ok (.goto 5, 3) := by decide +kernel
theorem dX8_append_85 : decode cX8_append 85 = .ok (.iload 5, 2) := by decide +kernel
theorem dX8_append_87 : decode cX8_append 87 = .ok (.istore 7, 2) := by decide +kernel
theorem dX8_append_89 : decode cX8_append 89 = .ok (.aload_n 0, 1) := by decide +kernel
theorem dX8_append_90 : decode cX8_append 90 = .ok (.getfield 22, 3) := by decide +kernel
theorem dX8_append_93 : decode cX8_append 93 = .ok (.aload_n 0, 1) := by decide +kernel
theorem dX8_append_94 : decode cX8_append 94 = .ok (.getfield 51, 3) := by decide +kernel
theorem dX8_append_97 : decode cX8_append 97 = .ok (.iload 7, 2) := by decide +kernel
theorem dX8_append_99 : decode cX8_append 99 = .ok (.bipush 24, 2) := by decide +kernel
theorem dX8_append_101 : decode cX8_append 101 = .ok (.bipush 8, 2) := by decide +kernel
theorem dX8_append_103 : decode cX8_append 103 = .ok (.iload 6, 2) := by decide +kernel
theorem dX8_append_105 : decode cX8_append 105 = .ok (.iconst 4, 1) := by decide +kernel
theorem dX8_append_106 : decode cX8_append 106 = .ok (.irem, 1) := by decide +kernel
theorem dX8_append_107 : decode cX8_append 107 = .ok (.imul, 1) := by decide +kernel
theorem dX8_append_108 : decode cX8_append 108 = .ok (.isub, 1) := by decide +kernel
theorem dX8_append_109 : decode cX8_append 109 = .ok (.ishr, 1) := by decide +kernel
theorem dX8_append_110 : decode cX8_append 110 = .ok (.sipush 255, 3) := by decide +kernel
theorem dX8_append_113 : decode cX8_append 113 = .ok (.iand, 1) := by decide +kernel
theorem dX8_append_114 : decode cX8_append 114 = .ok (.iastore, 1) := by decide +kernel
theorem dX8_append_115 : decode cX8_append 115 = .ok (.aload_n 0, 1) := by decide +kernel
theorem dX8_append_116 : decode cX8_append 116 = .ok (.dup, 1) := by decide +kernel
theorem dX8_append_117 : decode cX8_append 117 = .ok (.getfield 51, 3) := by decide +kernel
theorem dX8_append_120 : decode cX8_append 120 = .ok (.iconst 1, 1) := by decide +kernel
theorem dX8_append_121 : decode cX8_append 121 = .ok (.iadd, 1) := by decide +kernel
theorem dX8_append_122 : decode cX8_append 122 = .ok (.putfield 51, 3) := by decide +kernel
theorem dX8_append_125 : decode cX8_append 125 = .ok (.iinc 6 1, 3) := by decide +kernel
theorem dX8_append_128 : decode cX8_append 128 = .ok (.goto (-94), 3) := by decide +kernel
theorem dX8_append_131 : decode cX8_append 131 = .ok (.aload_n 0, 1) := by decide +kernel
theorem dX8_append_132 : decode cX8_append 132 = .ok (.getfield 51, 3) := by decide +kernel
theorem dX8_append_135 : decode cX8_append 135 = .ok (.ireturn, 1) := by decide +kernel
theorem dX8_see_0 : decode cX8_see 0 = .ok (.iload_n 1, 1) := by decide +kernel
theorem dX8_see_1 : decode cX8_see 1 = .ok (.aload_n 0, 1) := by decide +kernel
theorem dX8_see_2 : decode cX8_see 2 = .ok (.getfield 54, 3) := by decide +kernel
theorem dX8_see_5 : decode cX8_see 5 = .ok (.if_icmp .ge 12, 3) := by decide +kernel
theorem dX8_see_8 : decode cX8_see 8 = .ok (.aload_n 0, 1) := by decide +kernel
theorem dX8_see_9 : decode cX8_see 9 = .ok (.getfield 22, 3) := by decide +kernel
theorem dX8_see_12 : decode cX8_see 12 = .ok (.iload_n 1, 1) := by decide +kernel
theorem dX8_see_13 : decode cX8_see 13 = .ok (.iaload, 1) := by decide +kernel
theorem dX8_see_14 : decode cX8_see 14 = .ok (.goto 4, 3) := by decide +kernel
theorem dX8_see_17 : decode cX8_see 17 = .ok (.iconst (-1), 1) := by decide +kernel
theorem dX8_see_18 : decode cX8_see 18 = .ok (.ireturn, 1) := by decide +kernel
set_option maxRecDepth 20000 in
theorem ggX8_isLetter_X8_isIn : GoodIn wsX8_isLetter wsX8_isIn := goodIn_r _ [4] (by decide +kernel) (by decide +kernel)
set_option maxRecDepth 20000 in
theorem gX8_isLetter_X8_isIn : GoodIn wsX8_isLetter (va_wsS RX8 57 yX8_isIn wsX8_isIn) := goodIn_app (goodIn_of _ (by decide +kernel)) ggX8_isLetter_X8_isIn
theorem dX8_isLetter_0 : decode cX8_isLetter 0 = .ok (.iload_n 0, 1) := by decide +kernel
theorem dX8_isLetter_1 : decode cX8_isLetter 1 = .ok (.bipush 97, 2) := by decide +kernel
theorem dX8_isLetter_3 : decode cX8_isLetter 3 = .ok (.bipush 122, 2) := by decide +kernel
theorem dX8_isLetter_5 : decode cX8_isLetter 5 = .ok (.invokestatic 57, 3) := by decide +kernel
theorem dX8_isLetter_8 : decode cX8_isLetter 8 = .ok (.ireturn, 1) := by decide +kernel
set_option maxRecDepth 20000 in
theorem ggX8_isDigit_X8_isIn : GoodIn wsX8_isDigit wsX8_isIn := goodIn_r _ [4] (by decide +kernel) (by decide +kernel)
set_option maxRecDepth 20000 in
theorem gX8_isDigit_X8_isIn : GoodIn wsX8_isDigit (va_wsS RX8 57 yX8_isIn wsX8_isIn) := goodIn_app (goodIn_of _ (by decide +kernel)) ggX8_isDigit_X8_isIn
theorem dX8_isDigit_0 : decode cX8_isDigit 0 = .ok (.iload_n 0, 1) := by decide +kernel
theorem dX8_isDigit_1 : decode cX8_isDigit 1 = .ok (.bipush 48, 2) := by decide +kernel
theorem dX8_isDigit_3 : decode cX8_isDigit 3 = .ok (.bipush 57, 2) := by decide +kernel
theorem dX8_isDigit_5 : decode cX8_isDigit 5 = .ok (.invokestatic 57, 3) := by decide +kernel
theorem dX8_isDigit_8 : decode cX8_isDigit 8 = .ok (.ireturn, 1) := by decide +kernel
set_option maxRecDepth 20000 in
theorem ggX8_next_X8_see : GoodIn wsX8_next wsX8_see := goodIn_r _ [11, 3, 12, 22, 23, 24, 25, 26, 27, 28, 29, 30, 31, 32, 33, 34, 35, 36, 37, 38, 39, 40, 41] (by decide +kernel) (by decide +kernel)
set_option maxRecDepth 20000 in
theorem gX8_next_X8_see : GoodIn wsX8_next (wsV RX8 67 RX8 yX8_see wsX8_see) := goodIn_app (goodIn_of _ (by decide +kernel)) ggX8_next_X8_see
set_option maxRecDepth 20000 in
theorem ggX8_next_X8_isLetter : GoodIn wsX8_next wsX8_isLetter := goodIn_r _ [15, 16, 17, 10, 18] (by decide +kernel) (by decide +kernel)
set_option maxRecDepth 20000 in
theorem gX8_next_X8_isLetter : GoodIn wsX8_next (va_wsS RX8 74 yX8_isLetter wsX8_isLetter) := goodIn_app (goodIn_of _ (by decide +kernel)) ggX8_next_X8_isLetter
set_option maxRecDepth 20000 in
theorem ggX8_next_X8_isDigit : GoodIn wsX8_next wsX8_isDigit := goodIn_r _ [21, 16, 17, 10, 18] (by decide +kernel) (by decide +kernel)
set_option maxRecDepth 20000 in
theorem gX8_next_X8_isDigit : GoodIn wsX8_next (va_wsS RX8 78 yX8_isDigit wsX8_isDigit) := goodIn_app (goodIn_of _ (by decide +kernel)) ggX8_next_X8_isDigit
theorem dX8_next_0 : decode cX8_next 0 = .ok (.aload_n 0, 1) := by decide +kernel
theorem dX8_next_1 : decode cX8_next 1 = .ok (.aload_n 0, 1) := by decide +kernel
theorem dX8_next_2 : decode cX8_next 2 = .ok (.getfield 61, 3) := by decide +kernel
theorem dX8_next_5 : decode cX8_next 5 = .ok (.putfield 64, 3) := by decide +kernel
theorem dX8_next_8 : decode cX8_next 8 = .ok (.aload_n 0, 1) := by decide +kernel
theorem dX8_next_9 : decode cX8_next 9 = .ok (.aload_n 0, 1) := by decide +kernel
theorem dX8_next_10 : decode cX8_next 10 = .ok (.getfield 64, 3) := by decide +kernel
theorem dX8_next_13 : decode cX8_next 13 = .ok (.invokevirtual 67, 3) := by decide +kernel
theorem dX8_next_16 : decode cX8_next 16 = .ok (.bipush 32, 2) := by decide +kernel
theorem dX8_next_18 : decode cX8_next 18 = .ok (.if_icmp .ne 16, 3) := by decide +kernel
theorem dX8_next_21 : decode cX8_next 21 = .ok (.aload_n 0, 1) := by decide +kernel
theorem dX8_next_22 : decode cX8_next 22 = .ok (.dup, 1) := by decide +kernel
theorem dX8_next_23 : decode cX8_next 23 = .ok (.getfield 64, 3) := by decide +kernel
theorem dX8_next_26 : decode cX8_next 26 = .ok (.iconst 1, 1) := by decide +kernel
theorem dX8_next_27 : decode cX8_next 27 = .ok (.iadd, 1) := by decide +kernel
theorem dX8_next_28 : decode cX8_next 28 = .ok (.putfield 64, 3) := by decide +kernel
theorem dX8_next_31 : decode cX8_next 31 = .ok (.goto (-23), 3) := by decide +kernel
theorem dX8_next_34 : decode cX8_next 34 = .ok (.aload_n 0, 1) := by decide +kernel
theorem dX8_next_35 : decode cX8_next 35 = .ok (.aload_n 0, 1) := by decide +kernel
theorem dX8_next_36 : decode cX8_next 36 = .ok (.getfield 64, 3) := by decide +kernel
theorem dX8_next_39 : decode cX8_next 39 = .ok (.putfield 61, 3) := by decide +kernel
theorem dX8_next_42 : decode cX8_next 42 = .ok (.aload_n 0, 1) := by decide +kernel
theorem dX8_next_43 : decode cX8_next 43 = .ok (.getfield 64, 3) := by decide +kernel
theorem dX8_next_46 : decode cX8_next 46 = .ok (.aload_n 0, 1) := by decide +kernel
theorem dX8_next_47 : decode cX8_next 47 = .ok (.getfield 54, 3) := by decide +kernel
theorem dX8_next_50 : decode cX8_next 50 = .ok (.if_icmp .lt 11, 3) := by decide +kernel
theorem dX8_next_53 : decode cX8_next 53 = .ok (.aload_n 0, 1) := by decide +kernel
theorem dX8_next_54 : decode cX8_next 54 = .ok (.iconst 3, 1) := by decide +kernel
theorem dX8_next_55 : decode cX8_next 55 = .ok (.putfield 71, 3) := by decide +kernel
theorem dX8_next_58 : decode cX8_next 58 = .ok (.goto 153, 3) := by decide +kernel
theorem dX8_next_61 : decode cX8_next 61 = .ok (.aload_n 0, 1) := by decide +kernel
theorem dX8_next_62 : decode cX8_next 62 = .ok (.aload_n 0, 1) := by decide +kernel
theorem dX8_next_63 : decode cX8_next 63 = .ok (.getfield 64, 3) := by decide +kernel
theorem dX8_next_66 : decode cX8_next 66 = .ok (.invokevirtual 67, 3) := by decide +kernel
theorem dX8_next_69 : decode cX8_next 69 = .ok (.invokestatic 74, 3) := by decide +kernel
theorem dX8_next_72 : decode cX8_next 72 = .ok (.ifCond .eq 38, 3) := by decide +kernel
theorem dX8_next_75 : decode cX8_next 75 = .ok (.aload_n 0, 1) := by decide +kernel
theorem dX8_next_76 : decode cX8_next 76 = .ok (.aload_n 0, 1) := by decide +kernel
theorem dX8_next_77 : decode cX8_next 77 = .ok (.getfield 61, 3) := by decide +kernel
theorem dX8_next_80 : decode cX8_next 80 = .ok (.invokevirtual 67, 3) := by decide +kernel
theorem dX8_next_83 : decode cX8_next 83 = .ok (.invokestatic 74, 3) := by decide +kernel
theorem dX8_next_86 : decode cX8_next 86 = .ok (.ifCond .eq 16, 3) := by decide +kernel
theorem dX8_next_89 : decode cX8_next 89 = .ok (.aload_n 0, 1) := by decide +kernel
theorem dX8_next_90 : decode cX8_next 90 = .ok (.dup, 1) := by decide +kernel
theorem dX8_next_91 : decode cX8_next 91 = .ok (.getfield 61, 3) := by decide +kernel
theorem dX8_next_94 : decode cX8_next 94 = .ok (.iconst 1, 1) := by decide +kernel
theorem dX8_next_95 : decode cX8_next 95 = .ok (.iadd, 1) := by decide +kernel
theorem dX8_next_96 : decode cX8_next 96 = .ok (.putfield 61, 3) := by decide +kernel
theorem dX8_next_99 : decode cX8_next 99 = .ok (.goto (-24), 3) := by decide +kernel
theorem dX8_next_102 : decode cX8_next 102 = .ok (.aload_n 0, 1) := by decide +kernel
theorem dX8_next_103 : decode cX8_next 103 = .ok (.iconst 0, 1) := by decide +kernel
theorem dX8_next_104 : decode cX8_next 104 = .ok (.putfield 71, 3) := by decide +kernel
theorem dX8_next_107 : decode cX8_next 107 = .ok (.goto 104, 3) := by decide +kernel
theorem dX8_next_110 : decode cX8_next 110 = .ok (.aload_n 0, 1) := by decide +kernel
theorem dX8_next_111 : decode cX8_next 111 = .ok (.aload_n 0, 1) := by decide +kernel
theorem dX8_next_112 : decode cX8_next 112 = .ok (.getfield 64, 3) := by decide +kernel
theorem dX8_next_115 : decode cX8_next 115 = .ok (.invokevirtual 67, 3) := by decide +kernel
theorem dX8_next_118 : decode cX8_next 118 = .ok (.invokestatic 78, 3) := by decide +kernel
theorem dX8_next_121 : decode cX8_next 121 = .ok (.ifCond .eq 75, 3) := by decide +kernel
theorem dX8_next_124 : decode cX8_next 124 = .ok (.aload_n 0, 1) := by decide +kernel
theorem dX8_next_125 : decode cX8_next 125 = .ok (.iconst 0, 1) := by decide +kernel
theorem dX8_next_126 : decode cX8_next 126 = .ok (.putfield 81, 3) := by decide +kernel
theorem dX8_next_129 : decode cX8_next 129 = .ok (.aload_n 0, 1) := by decide +kernel
theorem dX8_next_130 : decode cX8_next 130 = .ok (.aload_n 0, 1) := by decide +kernel
theorem dX8_next_131 : decode cX8_next 131 = .ok (.getfield 61, 3) := by decide +kernel
theorem dX8_next_134 : decode cX8_next 134 = .ok (.invokevirtual 67, 3) := by decide +kernel
theorem dX8_next_137 : decode cX8_next 137 = .ok (.invokestatic 78, 3) := by decide +kernel
theorem dX8_next_140 : decode cX8_next 140 = .ok (.ifCond .eq 48, 3) := by decide +kernel
theorem dX8_next_143 : decode cX8_next 143 = .ok (.aload_n 0, 1) := by decide +kernel
theorem dX8_next_144 : decode cX8_next 144 = .ok (.getfield 81, 3) := by decide +kernel
theorem dX8_next_147 : decode cX8_next 147 = .ok (.ldc 84, 2) := by decide +kernel
theorem dX8_next_149 : decode cX8_next 149 = .ok (.if_icmp .ge 26, 3) := by decide +kernel
theorem dX8_next_152 : decode cX8_next 152 = .ok (.aload_n 0, 1) := by decide +kernel
theorem dX8_next_153 : decode cX8_next 153 = .ok (.bipush 10, 2) := by decide +kernel
theorem dX8_next_155 : decode cX8_next 155 = .ok (.aload_n 0, 1) := by decide +kernel
theorem dX8_next_156 : decode cX8_next 156 = .ok (.getfield 81, 3) := by decide +kernel
theorem dX8_next_159 : decode cX8_next 159 = .ok (.imul, 1) := by decide +kernel
theorem dX8_next_160 : decode cX8_next 160 = .ok (.aload_n 0, 1) := by decide +kernel
theorem dX8_next_161 : decode cX8_next 161 = .ok (.aload_n 0, 1) := by decide +kernel
theorem dX8_next_162 : decode cX8_next 162 = .ok (.getfield 61, 3) := by decide +kernel
theorem dX8_next_165 : decode cX8_next 165 = .ok (.invokevirtual 67, 3) := by decide +kernel
theorem dX8_next_168 : decode cX8_next 168 = .ok (.iadd, 1) := by decide +kernel
theorem dX8_next_169 : decode cX8_next 169 = .ok (.bipush 48, 2) := by decide +kernel
theorem dX8_next_171 : decode cX8_next 171 = .ok (.isub, 1) := by decide +kernel
theorem dX8_next_172 : decode cX8_next 172 = .ok (.putfield 81, 3) := by decide +kernel
theorem dX8_next_175 : decode cX8_next 175 = .ok (.aload_n 0, 1) := by decide +kernel
theorem dX8_next_176 : decode cX8_next 176 = .ok (.dup, 1) := by decide +kernel
theorem dX8_next_177 : decode cX8_next 177 = .ok (.getfield 61, 3) := by decide +kernel
theorem dX8_next_180 : decode cX8_next 180 = .ok (.iconst 1, 1) := by decide +kernel
theorem dX8_next_181 : decode cX8_next 181 = .ok (.iadd, 1) := by decide +kernel
theorem dX8_next_182 : decode cX8_next 182 = .ok (.putfield 61, 3) := by decide +kernel
theorem dX8_next_185 : decode cX8_next 185 = .ok (.goto (-56), 3) := by decide +kernel
theorem dX8_next_188 : decode cX8_next 188 = .ok (.aload_n 0, 1) := by decide +kernel
theorem dX8_next_189 : decode cX8_next 189 = .ok (.iconst 1, 1) := by decide +kernel
theorem dX8_next_190 : decode cX8_next 190 = .ok (.putfield 71, 3) := by decide +kernel
theorem dX8_next_193 : decode cX8_next 193 = .ok (.goto 18, 3) := by decide +kernel
theorem dX8_next_196 : decode cX8_next 196 = .ok (.aload_n 0, 1) := by decide +kernel
theorem dX8_next_197 : decode cX8_next 197 = .ok (.dup, 1) := by decide +kernel
theorem dX8_next_198 : decode cX8_next 198 = .ok (.getfield 61, 3) := by decide +kernel
theorem dX8_next_201 : decode cX8_next 201 = .ok (.iconst 1, 1) := by decide +kernel
theorem dX8_next_202 : decode cX8_next 202 = .ok (.iadd, 1) := by decide +kernel
theorem dX8_next_203 : decode cX8_next 203 = .ok (.putfield 61, 3) := by decide +kernel
theorem dX8_next_206 : decode cX8_next 206 = .ok (.aload_n 0, 1) := by decide +kernel
theorem dX8_next_207 : decode cX8_next 207 = .ok (.iconst 2, 1) := by decide +kernel
theorem dX8_next_208 : decode cX8_next 208 = .ok (.putfield 71, 3) := by decide +kernel
theorem dX8_next_211 : decode cX8_next 211 = .ok (.return_, 1) := by decide +kernel
set_option maxRecDepth 20000 in
theorem ggX8_isWord_J0_length_8abf5 : GoodIn wsX8_isWord wsJ0_length_8abf5 := goodIn_r _ [10, 11, 12, 13, 14, 9, 15, 16, 17] (by decide +kernel) (by decide +kernel)
set_option maxRecDepth 20000 in
theorem gX8_isWord_J0_length_8abf5 : GoodIn wsX8_isWord (wsV RX8 88 RJ0 yJ0_length_8abf5 wsJ0_length_8abf5) := goodIn_app (goodIn_of _ (by decide +kernel)) ggX8_isWord_J0_length_8abf5
set_option maxRecDepth 20000 in
theorem ggX8_isWord_J0_charAt_5068e : GoodIn wsX8_isWord wsJ0_charAt_5068e := goodIn_r _ [21, 11, 22, 23, 24, 9, 25, 16, 17, 26, 27, 28, 29, 30, 31, 32, 33, 34, 35, 36, 37, 38, 39, 40, 41, 42, 43, 44, 45, 46, 47, 48, 49, 50, 51, 52, 53, 54] (by decide +kernel) (by decide +kernel)
set_option maxRecDepth 20000 in
theorem gX8_isWord_J0_charAt_5068e : GoodIn wsX8_isWord (wsV RX8 94 RJ0 yJ0_charAt_5068e wsJ0_charAt_5068e) := goodIn_app (goodIn_of _ (by decide +kernel)) ggX8_isWord_J0_charAt_5068e
theorem dX8_isWord_0 : decode cX8_isWord 0 = .ok (.aload_n 0, 1) := by decide +kernel
theorem dX8_isWord_1 : decode cX8_isWord 1 = .ok (.getfield 85, 3) := by decide +kernel
theorem dX8_isWord_4 : decode cX8_isWord 4 = .ok (.ifCond .ne 26, 3) := by decide +kernel
theorem dX8_isWord_7 : decode cX8_isWord 7 = .ok (.aload_n 0, 1) := by decide +kernel
theorem dX8_isWord_8 : decode cX8_isWord 8 = .ok (.getfield 71, 3) := by decide +kernel
theorem dX8_isWord_11 : decode cX8_isWord 11 = .ok (.ifCond .ne 19, 3) := by decide +kernel
theorem dX8_isWord_14 : decode cX8_isWord 14 = .ok (.aload_n 0, 1) := by decide +kernel
theorem dX8_isWord_15 : decode cX8_isWord 15 = .ok (.getfield 61, 3) := by decide +kernel
theorem dX8_isWord_18 : decode cX8_isWord 18 = .ok (.aload_n 0, 1) := by decide +kernel
theorem dX8_isWord_19 : decode cX8_isWord 19 = .ok (.getfield 64, 3) := by decide +kernel
theorem dX8_isWord_22 : decode cX8_isWord 22 = .ok (.isub, 1) := by decide +kernel
theorem dX8_isWord_23 : decode cX8_isWord 23 = .ok (.aload_n 1, 1) := by decide +kernel
theorem dX8_isWord_24 : decode cX8_isWord 24 = .ok (.invokevirtual 88, 3) := by decide +kernel
theorem dX8_isWord_27 : decode cX8_isWord 27 = .ok (.if_icmp .eq 5, 3) := by decide +kernel
theorem dX8_isWord_30 : decode cX8_isWord 30 = .ok (.iconst 0, 1) := by decide +kernel
theorem dX8_isWord_31 : decode cX8_isWord 31 = .ok (.ireturn, 1) := by decide +kernel
theorem dX8_isWord_32 : decode cX8_isWord 32 = .ok (.iconst 0, 1) := by decide +kernel
theorem dX8_isWord_33 : decode cX8_isWord 33 = .ok (.istore_n 2, 1) := by decide +kernel
theorem dX8_isWord_34 : decode cX8_isWord 34 = .ok (.iload_n 2, 1) := by decide +kernel
theorem dX8_isWord_35 : decode cX8_isWord 35 = .ok (.aload_n 1, 1) := by decide +kernel
theorem dX8_isWord_36 : decode cX8_isWord 36 = .ok (.invokevirtual 88, 3) := by decide +kernel
theorem dX8_isWord_39 : decode cX8_isWord 39 = .ok (.if_icmp .ge 30, 3) := by decide +kernel
theorem dX8_isWord_42 : decode cX8_isWord 42 = .ok (.aload_n 0, 1) := by decide +kernel
theorem dX8_isWord_43 : decode cX8_isWord 43 = .ok (.getfield 22, 3) := by decide +kernel
theorem dX8_isWord_46 : decode cX8_isWord 46 = .ok (.aload_n 0, 1) := by decide +kernel
theorem dX8_isWord_47 : decode cX8_isWord 47 = .ok (.getfield 64, 3) := by decide +kernel
theorem dX8_isWord_50 : decode cX8_isWord 50 = .ok (.iload_n 2, 1) := by decide +kernel
theorem dX8_isWord_51 : decode cX8_isWord 51 = .ok (.iadd, 1) := by decide +kernel
theorem dX8_isWord_52 : decode cX8_isWord 52 = .ok (.iaload, 1) := by decide +kernel
theorem dX8_isWord_53 : decode cX8_isWord 53 = .ok (.aload_n 1, 1) := by decide +kernel
theorem dX8_isWord_54 : decode cX8_isWord 54 = .ok (.iload_n 2, 1) := by decide +kernel
theorem dX8_isWord_55 : decode cX8_isWord 55 = .ok (.invokevirtual 94, 3) := by decide +kernel
theorem dX8_isWord_58 : decode cX8_isWord 58 = .ok (.if_icmp .eq 5, 3) := by decide +kernel
theorem dX8_isWord_61 : decode cX8_isWord 61 = .ok (.iconst 0, 1) := by decide +kernel
theorem dX8_isWord_62 : decode cX8_isWord 62 = .ok (.ireturn, 1) := by decide +kernel
theorem dX8_isWord_63 : decode cX8_isWord 63 = .ok (.iinc 2 1, 3) := by decide +kernel
theorem dX8_isWord_66 : decode cX8_isWord 66 = .ok (.goto (-32), 3) := by decide +kernel
theorem dX8_isWord_69 : decode cX8_isWord 69 = .ok (.iconst 1, 1) := by decide +kernel
theorem dX8_isWord_70 : decode cX8_isWord 70 = .ok (.ireturn, 1) := by decide +kernel
set_option maxRecDepth 20000 in
theorem ggX8_isSign_X8_see : GoodIn wsX8_isSign wsX8_see := goodIn_r _ [8, 9, 10, 11, 12, 13, 14, 15, 16, 17, 18, 19, 20, 21, 22, 23, 24, 25, 26, 27, 28, 29, 30] (by decide +kernel) (by decide +kernel)
set_option maxRecDepth 20000 in
theorem gX8_isSign_X8_see : GoodIn wsX8_isSign (wsV RX8 67 RX8 yX8_see wsX8_see) := goodIn_app (goodIn_of _ (by decide +kernel)) ggX8_isSign_X8_see
theorem dX8_isSign_0 : decode cX8_isSign 0 = .ok (.aload_n 0, 1) := by decide +kernel
theorem dX8_isSign_1 : decode cX8_isSign 1 = .ok (.getfield 85, 3) := by decide +kernel
theorem dX8_isSign_4 : decode cX8_isSign 4 = .ok (.ifCond .ne 27, 3) := by decide +kernel
theorem dX8_isSign_7 : decode cX8_isSign 7 = .ok (.aload_n 0, 1) := by decide +kernel
theorem dX8_isSign_8 : decode cX8_isSign 8 = .ok (.getfield 71, 3) := by decide +kernel
theorem dX8_isSign_11 : decode cX8_isSign 11 = .ok (.iconst 2, 1) := by decide +kernel
theorem dX8_isSign_12 : decode cX8_isSign 12 = .ok (.if_icmp .ne 19, 3) := by decide +kernel
theorem dX8_isSign_15 : decode cX8_isSign 15 = .ok (.aload_n 0, 1) := by decide +kernel
theorem dX8_isSign_16 : decode cX8_isSign 16 = .ok (.aload_n 0, 1) := by decide +kernel
theorem dX8_isSign_17 : decode cX8_isSign 17 = .ok (.getfield 64, 3) := by decide +kernel
theorem dX8_isSign_20 : decode cX8_isSign 20 = .ok (.invokevirtual 67, 3) := by decide +kernel
theorem dX8_isSign_23 : decode cX8_isSign 23 = .ok (.iload_n 1, 1) := by decide +kernel
theorem dX8_isSign_24 : decode cX8_isSign 24 = .ok (.if_icmp .ne 7, 3) := by decide +kernel
theorem dX8_isSign_27 : decode cX8_isSign 27 = .ok (.iconst 1, 1) := by decide +kernel
theorem dX8_isSign_28 : decode cX8_isSign 28 = .ok (.goto 4, 3) := by decide +kernel
theorem dX8_isSign_31 : decode cX8_isSign 31 = .ok (.iconst 0, 1) := by decide +kernel
theorem dX8_isSign_32 : decode cX8_isSign 32 = .ok (.ireturn, 1) := by decide +kernel
theorem dX8_fails_0 : decode cX8_fails 0 = .ok (.aload_n 0, 1) := by decide +kernel
theorem dX8_fails_1 : decode cX8_fails 1 = .ok (.getfield 85, 3) := by decide +kernel
theorem dX8_fails_4 : decode cX8_fails 4 = .ok (.ifCond .eq 4, 3) := by decide +kernel
theorem dX8_fails_7 : decode cX8_fails 7 = .ok (.return_, 1) := by decide +kernel
theorem dX8_fails_8 : decode cX8_fails 8 = .ok (.aload_n 0, 1) := by decide +kernel
theorem dX8_fails_9 : decode cX8_fails 9 = .ok (.iload_n 1, 1) := by decide +kernel
theorem dX8_fails_10 : decode cX8_fails 10 = .ok (.putfield 85, 3) := by decide +kernel
theorem dX8_fails_13 : decode cX8_fails 13 = .ok (.aload_n 0, 1) := by decide +kernel
theorem dX8_fails_14 : decode cX8_fails 14 = .ok (.aload_n 0, 1) := by decide +kernel
theorem dX8_fails_15 : decode cX8_fails 15 = .ok (.getfield 64, 3) := by decide +kernel
theorem dX8_fails_18 : decode cX8_fails 18 = .ok (.putfield 98, 3) := by decide +kernel
theorem dX8_fails_21 : decode cX8_fails 21 = .ok (.return_, 1) := by decide +kernel
set_option maxRecDepth 20000 in
theorem ggX8_must_X8_fails : GoodIn wsX8_must wsX8_fails := goodIn_r _ [6, 1, 7, 8, 32, 33, 34, 35, 36, 37, 38, 39, 40, 41, 42, 43, 44, 45, 46, 47, 48, 49, 50, 51] (by decide +kernel) (by decide +kernel)
set_option maxRecDepth 20000 in
theorem gX8_must_X8_fails : GoodIn wsX8_must (wsV RX8 101 RX8 yX8_fails wsX8_fails) := goodIn_app (goodIn_of _ (by decide +kernel)) ggX8_must_X8_fails
set_option maxRecDepth 20000 in
theorem ggX8_must_X8_next : GoodIn wsX8_must wsX8_next := goodIn_r _ [12, 13, 7, 14, 15, 16, 17, 18, 19, 20, 5, 21, 22, 23, 24, 25, 26, 27, 28, 29, 30, 31, 32, 33, 34, 35, 36, 37, 38, 39, 40, 41, 42, 43, 44, 45, 46, 47, 48, 49, 50, 51] (by decide +kernel) (by decide +kernel)
set_option maxRecDepth 20000 in
theorem gX8_must_X8_next : GoodIn wsX8_must (wsV RX8 105 RX8 yX8_next wsX8_next) := goodIn_app (goodIn_of _ (by decide +kernel)) ggX8_must_X8_next
theorem dX8_must_0 : decode cX8_must 0 = .ok (.iload_n 1, 1) := by decide +kernel
theorem dX8_must_1 : decode cX8_must 1 = .ok (.ifCond .ne 9, 3) := by decide +kernel
theorem dX8_must_4 : decode cX8_must 4 = .ok (.aload_n 0, 1) := by decide +kernel
theorem dX8_must_5 : decode cX8_must 5 = .ok (.bipush (-2), 2) := by decide +kernel
theorem dX8_must_7 : decode cX8_must 7 = .ok (.invokevirtual 101, 3) := by decide +kernel
theorem dX8_must_10 : decode cX8_must 10 = .ok (.aload_n 0, 1) := by decide +kernel
theorem dX8_must_11 : decode cX8_must 11 = .ok (.getfield 85, 3) := by decide +kernel
theorem dX8_must_14 : decode cX8_must 14 = .ok (.ifCond .ne 7, 3) := by decide +kernel
theorem dX8_must_17 : decode cX8_must 17 = .ok (.aload_n 0, 1) := by decide +kernel
theorem dX8_must_18 : decode cX8_must 18 = .ok (.invokevirtual 105, 3) := by decide +kernel
theorem dX8_must_21 : decode cX8_must 21 = .ok (.return_, 1) := by decide +kernel
set_option maxRecDepth 20000 in
theorem ggX8_takes_X8_fails : GoodIn wsX8_takes wsX8_fails := goodIn_r _ [8, 1, 9, 10, 32, 33, 34, 35, 36, 37, 38, 39, 40, 41, 42, 43, 44, 45, 46, 47, 48, 49, 50, 51] (by decide +kernel) (by decide +kernel)
set_option maxRecDepth 20000 in
theorem gX8_takes_X8_fails : GoodIn wsX8_takes (wsV RX8 101 RX8 yX8_fails wsX8_fails) := goodIn_app (goodIn_of _ (by decide +kernel)) ggX8_takes_X8_fails
set_option maxRecDepth 20000 in
theorem ggX8_takes_X8_isIn : GoodIn wsX8_takes wsX8_isIn := goodIn_r _ [13] (by decide +kernel) (by decide +kernel)
set_option maxRecDepth 20000 in
theorem gX8_takes_X8_isIn : GoodIn wsX8_takes (va_wsS RX8 57 yX8_isIn wsX8_isIn) := goodIn_app (goodIn_of _ (by decide +kernel)) ggX8_takes_X8_isIn
set_option maxRecDepth 20000 in
theorem ggX8_takes_X8_next : GoodIn wsX8_takes wsX8_next := goodIn_r _ [17, 18, 9, 19, 2, 3, 20, 21, 22, 23, 7, 24, 25, 26, 27, 28, 11, 12, 13, 29, 30, 31, 32, 33, 34, 35, 36, 37, 38, 39, 40, 41, 42, 43, 44, 45, 46, 47, 48, 49, 50, 51] (by decide +kernel) (by decide +kernel)
set_option maxRecDepth 20000 in
theorem gX8_takes_X8_next : GoodIn wsX8_takes (wsV RX8 105 RX8 yX8_next wsX8_next) := goodIn_app (goodIn_of _ (by decide +kernel)) ggX8_takes_X8_next
theorem dX8_takes_0 : decode cX8_takes 0 = .ok (.aload_n 0, 1) := by decide +kernel
theorem dX8_takes_1 : decode cX8_takes 1 = .ok (.getfield 85, 3) := by decide +kernel
theorem dX8_takes_4 : decode cX8_takes 4 = .ok (.ifCond .ne 20, 3) := by decide +kernel
theorem dX8_takes_7 : decode cX8_takes 7 = .ok (.aload_n 0, 1) := by decide +kernel
theorem dX8_takes_8 : decode cX8_takes 8 = .ok (.getfield 71, 3) := by decide +kernel
theorem dX8_takes_11 : decode cX8_takes 11 = .ok (.iconst 1, 1) := by decide +kernel
theorem dX8_takes_12 : decode cX8_takes 12 = .ok (.if_icmp .eq 12, 3) := by decide +kernel
theorem dX8_takes_15 : decode cX8_takes 15 = .ok (.aload_n 0, 1) := by decide +kernel
theorem dX8_takes_16 : decode cX8_takes 16 = .ok (.bipush (-2), 2) := by decide +kernel
theorem dX8_takes_18 : decode cX8_takes 18 = .ok (.invokevirtual 101, 3) := by decide +kernel
theorem dX8_takes_21 : decode cX8_takes 21 = .ok (.goto 28, 3) := by decide +kernel
theorem dX8_takes_24 : decode cX8_takes 24 = .ok (.aload_n 0, 1) := by decide +kernel
theorem dX8_takes_25 : decode cX8_takes 25 = .ok (.getfield 85, 3) := by decide +kernel
theorem dX8_takes_28 : decode cX8_takes 28 = .ok (.ifCond .ne 21, 3) := by decide +kernel
theorem dX8_takes_31 : decode cX8_takes 31 = .ok (.aload_n 0, 1) := by decide +kernel
theorem dX8_takes_32 : decode cX8_takes 32 = .ok (.getfield 81, 3) := by decide +kernel
theorem dX8_takes_35 : decode cX8_takes 35 = .ok (.iload_n 1, 1) := by decide +kernel
theorem dX8_takes_36 : decode cX8_takes 36 = .ok (.iload_n 2, 1) := by decide +kernel
theorem dX8_takes_37 : decode cX8_takes 37 = .ok (.invokestatic 57, 3) := by decide +kernel
theorem dX8_takes_40 : decode cX8_takes 40 = .ok (.ifCond .ne 9, 3) := by decide +kernel
theorem dX8_takes_43 : decode cX8_takes 43 = .ok (.aload_n 0, 1) := by decide +kernel
theorem dX8_takes_44 : decode cX8_takes 44 = .ok (.bipush (-3), 2) := by decide +kernel
theorem dX8_takes_46 : decode cX8_takes 46 = .ok (.invokevirtual 101, 3) := by decide +kernel
theorem dX8_takes_49 : decode cX8_takes 49 = .ok (.aload_n 0, 1) := by decide +kernel
theorem dX8_takes_50 : decode cX8_takes 50 = .ok (.getfield 85, 3) := by decide +kernel
theorem dX8_takes_53 : decode cX8_takes 53 = .ok (.ifCond .ne 10, 3) := by decide +kernel
theorem dX8_takes_56 : decode cX8_takes 56 = .ok (.aload_n 0, 1) := by decide +kernel
theorem dX8_takes_57 : decode cX8_takes 57 = .ok (.getfield 81, 3) := by decide +kernel
theorem dX8_takes_60 : decode cX8_takes 60 = .ok (.goto 4, 3) := by decide +kernel
theorem dX8_takes_63 : decode cX8_takes 63 = .ok (.iconst 0, 1) := by decide +kernel
theorem dX8_takes_64 : decode cX8_takes 64 = .ok (.istore_n 3, 1) := by decide +kernel
theorem dX8_takes_65 : decode cX8_takes 65 = .ok (.aload_n 0, 1) := by decide +kernel
theorem dX8_takes_66 : decode cX8_takes 66 = .ok (.getfield 85, 3) := by decide +kernel
theorem dX8_takes_69 : decode cX8_takes 69 = .ok (.ifCond .ne 7, 3) := by decide +kernel
theorem dX8_takes_72 : decode cX8_takes 72 = .ok (.aload_n 0, 1) := by decide +kernel
theorem dX8_takes_73 : decode cX8_takes 73 = .ok (.invokevirtual 105, 3) := by decide +kernel
theorem dX8_takes_76 : decode cX8_takes 76 = .ok (.iload_n 3, 1) := by decide +kernel
theorem dX8_takes_77 : decode cX8_takes 77 = .ok (.ireturn, 1) := by decide +kernel
set_option maxRecDepth 20000 in
theorem ggX8_readsRow_X8_fails : GoodIn wsX8_readsRow wsX8_fails := goodIn_r _ [7, 2, 8, 9, 45, 46, 47, 48, 49, 50, 51, 52, 53, 54, 55, 56, 57, 58, 59, 60, 61, 62, 63, 64] (by decide +kernel) (by decide +kernel)
set_option maxRecDepth 20000 in
theorem gX8_readsRow_X8_fails : GoodIn wsX8_readsRow (wsV RX8 101 RX8 yX8_fails wsX8_fails) := goodIn_app (goodIn_of _ (by decide +kernel)) ggX8_readsRow_X8_fails
set_option maxRecDepth 20000 in
theorem ggX8_readsRow_X8_must : GoodIn wsX8_readsRow wsX8_must := goodIn_r _ [13, 2, 3, 4, 5, 6, 7, 8, 9, 14, 15, 16, 17, 18, 19, 20, 21, 22, 23, 24, 25, 26, 27, 28, 29, 30, 31, 32, 33, 34, 35, 36, 45, 46, 47, 48, 49, 50, 51, 52, 53, 54, 55, 56, 57, 58, 59, 60, 61, 62, 63, 64] (by decide +kernel) (by decide +kernel)
set_option maxRecDepth 20000 in
theorem gX8_readsRow_X8_must : GoodIn wsX8_readsRow (wsV RX8 108 RX8 yX8_must wsX8_must) := goodIn_app (goodIn_of _ (by decide +kernel)) ggX8_readsRow_X8_must
set_option maxRecDepth 20000 in
theorem ggX8_readsRow_X8_takes : GoodIn wsX8_readsRow wsX8_takes := goodIn_r _ [40, 2, 20, 21, 3, 4, 5, 6, 7, 8, 9, 31, 32, 33, 14, 15, 16, 17, 18, 19, 22, 23, 24, 25, 26, 27, 28, 29, 30, 34, 35, 36, 45, 46, 47, 48, 49, 50, 51, 52, 53, 54, 55, 56, 57, 58, 59, 60, 61, 62, 63, 64] (by decide +kernel) (by decide +kernel)
set_option maxRecDepth 20000 in
theorem gX8_readsRow_X8_takes : GoodIn wsX8_readsRow (wsV RX8 112 RX8 yX8_takes wsX8_takes) := goodIn_app (goodIn_of _ (by decide +kernel)) ggX8_readsRow_X8_takes
set_option maxRecDepth 20000 in
theorem ggX8_readsRow_X8_isSign : GoodIn wsX8_readsRow wsX8_isSign := goodIn_r _ [44, 2, 20, 8, 23, 24, 25, 6, 26, 19, 27, 45, 46, 47, 48, 49, 50, 51, 52, 53, 54, 55, 56, 57, 58, 59, 60, 61, 62, 63, 64] (by decide +kernel) (by decide +kernel)
set_option maxRecDepth 20000 in
theorem gX8_readsRow_X8_isSign : GoodIn wsX8_readsRow (wsV RX8 116 RX8 yX8_isSign wsX8_isSign) := goodIn_app (goodIn_of _ (by decide +kernel)) ggX8_readsRow_X8_isSign
set_option maxRecDepth 20000 in
theorem ggX8_readsRow_X8_next : GoodIn wsX8_readsRow wsX8_next := goodIn_r _ [17, 18, 8, 19, 20, 21, 22, 23, 24, 25, 6, 26, 27, 28, 29, 30, 31, 32, 33, 34, 35, 36, 45, 46, 47, 48, 49, 50, 51, 52, 53, 54, 55, 56, 57, 58, 59, 60, 61, 62, 63, 64] (by decide +kernel) (by decide +kernel)
set_option maxRecDepth 20000 in
theorem gX8_readsRow_X8_next : GoodIn wsX8_readsRow (wsV RX8 105 RX8 yX8_next wsX8_next) := goodIn_app (goodIn_of _ (by decide +kernel)) ggX8_readsRow_X8_next
theorem dX8_readsRow_0 : decode cX8_readsRow 0 = .ok (.aload_n 0, 1) := by decide +kernel
theorem dX8_readsRow_1 : decode cX8_readsRow 1 = .ok (.getfield 13, 3) := by decide +kernel
theorem dX8_readsRow_4 : decode cX8_readsRow 4 = .ok (.iconst 0, 1) := by decide +kernel
theorem dX8_readsRow_5 : decode cX8_readsRow 5 = .ok (.iaload, 1) := by decide +kernel
theorem dX8_readsRow_6 : decode cX8_readsRow 6 = .ok (.istore_n 1, 1) := by decide +kernel
theorem dX8_readsRow_7 : decode cX8_readsRow 7 = .ok (.iload_n 1, 1) := by decide +kernel
theorem dX8_readsRow_8 : decode cX8_readsRow 8 = .ok (.bipush 120, 2) := by decide +kernel
theorem dX8_readsRow_10 : decode cX8_readsRow 10 = .ok (.if_icmp .ne 9, 3) := by decide +kernel
theorem dX8_readsRow_13 : decode cX8_readsRow 13 = .ok (.aload_n 0, 1) := by decide +kernel
theorem dX8_readsRow_14 : decode cX8_readsRow 14 = .ok (.bipush (-4), 2) := by decide +kernel
theorem dX8_readsRow_16 : decode cX8_readsRow 16 = .ok (.invokevirtual 101, 3) := by decide +kernel
theorem dX8_readsRow_19 : decode cX8_readsRow 19 = .ok (.aload_n 0, 1) := by decide +kernel
theorem dX8_readsRow_20 : decode cX8_readsRow 20 = .ok (.iconst 1, 1) := by decide +kernel
theorem dX8_readsRow_21 : decode cX8_readsRow 21 = .ok (.invokevirtual 108, 3) := by decide +kernel
theorem dX8_readsRow_24 : decode cX8_readsRow 24 = .ok (.aload_n 0, 1) := by decide +kernel
theorem dX8_readsRow_25 : decode cX8_readsRow 25 = .ok (.iconst 0, 1) := by decide +kernel
theorem dX8_readsRow_26 : decode cX8_readsRow 26 = .ok (.sipush 9999, 3) := by decide +kernel
theorem dX8_readsRow_29 : decode cX8_readsRow 29 = .ok (.invokevirtual 112, 3) := by decide +kernel
theorem dX8_readsRow_32 : decode cX8_readsRow 32 = .ok (.istore_n 2, 1) := by decide +kernel
theorem dX8_readsRow_33 : decode cX8_readsRow 33 = .ok (.aload_n 0, 1) := by decide +kernel
theorem dX8_readsRow_34 : decode cX8_readsRow 34 = .ok (.bipush 45, 2) := by decide +kernel
theorem dX8_readsRow_36 : decode cX8_readsRow 36 = .ok (.invokevirtual 116, 3) := by decide +kernel
theorem dX8_readsRow_39 : decode cX8_readsRow 39 = .ok (.istore_n 3, 1) := by decide +kernel
theorem dX8_readsRow_40 : decode cX8_readsRow 40 = .ok (.iload_n 3, 1) := by decide +kernel
theorem dX8_readsRow_41 : decode cX8_readsRow 41 = .ok (.ifCond .eq 7, 3) := by decide +kernel
theorem dX8_readsRow_44 : decode cX8_readsRow 44 = .ok (.aload_n 0, 1) := by decide +kernel
theorem dX8_readsRow_45 : decode cX8_readsRow 45 = .ok (.invokevirtual 105, 3) := by decide +kernel
theorem dX8_readsRow_48 : decode cX8_readsRow 48 = .ok (.aload_n 0, 1) := by decide +kernel
theorem dX8_readsRow_49 : decode cX8_readsRow 49 = .ok (.iconst 0, 1) := by decide +kernel
theorem dX8_readsRow_50 : decode cX8_readsRow 50 = .ok (.bipush 99, 2) := by decide +kernel
theorem dX8_readsRow_52 : decode cX8_readsRow 52 = .ok (.invokevirtual 112, 3) := by decide +kernel
theorem dX8_readsRow_55 : decode cX8_readsRow 55 = .ok (.istore 4, 2) := by decide +kernel
theorem dX8_readsRow_57 : decode cX8_readsRow 57 = .ok (.aload_n 0, 1) := by decide +kernel
theorem dX8_readsRow_58 : decode cX8_readsRow 58 = .ok (.getfield 85, 3) := by decide +kernel
theorem dX8_readsRow_61 : decode cX8_readsRow 61 = .ok (.ifCond .eq 4, 3) := by decide +kernel
theorem dX8_readsRow_64 : decode cX8_readsRow 64 = .ok (.return_, 1) := by decide +kernel
theorem dX8_readsRow_65 : decode cX8_readsRow 65 = .ok (.aload_n 0, 1) := by decide +kernel
theorem dX8_readsRow_66 : decode cX8_readsRow 66 = .ok (.getfield 13, 3) := by decide +kernel
theorem dX8_readsRow_69 : decode cX8_readsRow 69 = .ok (.bipush 20, 2) := by decide +kernel
theorem dX8_readsRow_71 : decode cX8_readsRow 71 = .ok (.iload_n 1, 1) := by decide +kernel
theorem dX8_readsRow_72 : decode cX8_readsRow 72 = .ok (.iadd, 1) := by decide +kernel
theorem dX8_readsRow_73 : decode cX8_readsRow 73 = .ok (.iload_n 2, 1) := by decide +kernel
theorem dX8_readsRow_74 : decode cX8_readsRow 74 = .ok (.iastore, 1) := by decide +kernel
theorem dX8_readsRow_75 : decode cX8_readsRow 75 = .ok (.aload_n 0, 1) := by decide +kernel
theorem dX8_readsRow_76 : decode cX8_readsRow 76 = .ok (.getfield 13, 3) := by decide +kernel
theorem dX8_readsRow_79 : decode cX8_readsRow 79 = .ok (.sipush 140, 3) := by decide +kernel
theorem dX8_readsRow_82 : decode cX8_readsRow 82 = .ok (.iload_n 1, 1) := by decide +kernel
theorem dX8_readsRow_83 : decode cX8_readsRow 83 = .ok (.iadd, 1) := by decide +kernel
theorem dX8_readsRow_84 : decode cX8_readsRow 84 = .ok (.iload_n 3, 1) := by decide +kernel
theorem dX8_readsRow_85 : decode cX8_readsRow 85 = .ok (.ifCond .eq 9, 3) := by decide +kernel
theorem dX8_readsRow_88 : decode cX8_readsRow 88 = .ok (.iload 4, 2) := by decide +kernel
theorem dX8_readsRow_90 : decode cX8_readsRow 90 = .ok (.ineg, 1) := by decide +kernel
theorem dX8_readsRow_91 : decode cX8_readsRow 91 = .ok (.goto 5, 3) := by decide +kernel
theorem dX8_readsRow_94 : decode cX8_readsRow 94 = .ok (.iload 4, 2) := by decide +kernel
theorem dX8_readsRow_96 : decode cX8_readsRow 96 = .ok (.iastore, 1) := by decide +kernel
theorem dX8_readsRow_97 : decode cX8_readsRow 97 = .ok (.aload_n 0, 1) := by decide +kernel
theorem dX8_readsRow_98 : decode cX8_readsRow 98 = .ok (.getfield 13, 3) := by decide +kernel
theorem dX8_readsRow_101 : decode cX8_readsRow 101 = .ok (.iconst 0, 1) := by decide +kernel
theorem dX8_readsRow_102 : decode cX8_readsRow 102 = .ok (.dup2, 1) := by decide +kernel
theorem dX8_readsRow_103 : decode cX8_readsRow 103 = .ok (.iaload, 1) := by decide +kernel
theorem dX8_readsRow_104 : decode cX8_readsRow 104 = .ok (.iconst 1, 1) := by decide +kernel
theorem dX8_readsRow_105 : decode cX8_readsRow 105 = .ok (.iadd, 1) := by decide +kernel
theorem dX8_readsRow_106 : decode cX8_readsRow 106 = .ok (.iastore, 1) := by decide +kernel
theorem dX8_readsRow_107 : decode cX8_readsRow 107 = .ok (.return_, 1) := by decide +kernel
set_option maxRecDepth 20000 in
theorem ggX8_readsSetting_X8_must : GoodIn wsX8_readsSetting wsX8_must := goodIn_r _ [7, 1, 8, 9, 10, 6, 11, 12, 13, 14, 15, 16, 17, 18, 19, 20, 21, 22, 23, 24, 25, 26, 27, 28, 29, 30, 31, 32, 33, 34, 35, 36, 47, 48, 49, 50, 51, 52, 53, 54, 55, 56, 57, 58, 59, 60, 61, 62, 63, 64, 65, 66] (by decide +kernel) (by decide +kernel)
set_option maxRecDepth 20000 in
theorem gX8_readsSetting_X8_must : GoodIn wsX8_readsSetting (wsV RX8 108 RX8 yX8_must wsX8_must) := goodIn_app (goodIn_of _ (by decide +kernel)) ggX8_readsSetting_X8_must
set_option maxRecDepth 20000 in
theorem ggX8_readsSetting_X8_least : GoodIn wsX8_readsSetting wsX8_least := goodIn_r _ [39] (by decide +kernel) (by decide +kernel)
set_option maxRecDepth 20000 in
theorem gX8_readsSetting_X8_least : GoodIn wsX8_readsSetting (va_wsS RX8 119 yX8_least wsX8_least) := goodIn_app (goodIn_of _ (by decide +kernel)) ggX8_readsSetting_X8_least
set_option maxRecDepth 20000 in
theorem ggX8_readsSetting_X8_greatest : GoodIn wsX8_readsSetting wsX8_greatest := goodIn_r _ [42] (by decide +kernel) (by decide +kernel)
set_option maxRecDepth 20000 in
theorem gX8_readsSetting_X8_greatest : GoodIn wsX8_readsSetting (va_wsS RX8 122 yX8_greatest wsX8_greatest) := goodIn_app (goodIn_of _ (by decide +kernel)) ggX8_readsSetting_X8_greatest
set_option maxRecDepth 20000 in
theorem ggX8_readsSetting_X8_takes : GoodIn wsX8_readsSetting wsX8_takes := goodIn_r _ [46, 1, 20, 21, 8, 9, 10, 6, 11, 12, 13, 31, 32, 33, 14, 15, 16, 17, 18, 19, 22, 23, 24, 25, 26, 27, 28, 29, 30, 34, 35, 36, 47, 48, 49, 50, 51, 52, 53, 54, 55, 56, 57, 58, 59, 60, 61, 62, 63, 64, 65, 66] (by decide +kernel) (by decide +kernel)
set_option maxRecDepth 20000 in
theorem gX8_readsSetting_X8_takes : GoodIn wsX8_readsSetting (wsV RX8 112 RX8 yX8_takes wsX8_takes) := goodIn_app (goodIn_of _ (by decide +kernel)) ggX8_readsSetting_X8_takes
theorem dX8_readsSetting_0 : decode cX8_readsSetting 0 = .ok (.aload_n 0, 1) := by decide +kernel
theorem dX8_readsSetting_1 : decode cX8_readsSetting 1 = .ok (.iconst 1, 1) := by decide +kernel
theorem dX8_readsSetting_2 : decode cX8_readsSetting 2 = .ok (.invokevirtual 108, 3) := by decide +kernel
theorem dX8_readsSetting_5 : decode cX8_readsSetting 5 = .ok (.aload_n 0, 1) := by decide +kernel
theorem dX8_readsSetting_6 : decode cX8_readsSetting 6 = .ok (.iload_n 1, 1) := by decide +kernel
theorem dX8_readsSetting_7 : decode cX8_readsSetting 7 = .ok (.invokestatic 119, 3) := by decide +kernel
theorem dX8_readsSetting_10 : decode cX8_readsSetting 10 = .ok (.iload_n 1, 1) := by decide +kernel
theorem dX8_readsSetting_11 : decode cX8_readsSetting 11 = .ok (.invokestatic 122, 3) := by decide +kernel
theorem dX8_readsSetting_14 : decode cX8_readsSetting 14 = .ok (.invokevirtual 112, 3) := by decide +kernel
theorem dX8_readsSetting_17 : decode cX8_readsSetting 17 = .ok (.istore_n 2, 1) := by decide +kernel
theorem dX8_readsSetting_18 : decode cX8_readsSetting 18 = .ok (.aload_n 0, 1) := by decide +kernel
theorem dX8_readsSetting_19 : decode cX8_readsSetting 19 = .ok (.getfield 85, 3) := by decide +kernel
theorem dX8_readsSetting_22 : decode cX8_readsSetting 22 = .ok (.ifCond .ne 12, 3) := by decide +kernel
theorem dX8_readsSetting_25 : decode cX8_readsSetting 25 = .ok (.aload_n 0, 1) := by decide +kernel
theorem dX8_readsSetting_26 : decode cX8_readsSetting 26 = .ok (.getfield 13, 3) := by decide +kernel
theorem dX8_readsSetting_29 : decode cX8_readsSetting 29 = .ok (.iconst 4, 1) := by decide +kernel
theorem dX8_readsSetting_30 : decode cX8_readsSetting 30 = .ok (.iload_n 1, 1) := by decide +kernel
theorem dX8_readsSetting_31 : decode cX8_readsSetting 31 = .ok (.iadd, 1) := by decide +kernel
theorem dX8_readsSetting_32 : decode cX8_readsSetting 32 = .ok (.iload_n 2, 1) := by decide +kernel
theorem dX8_readsSetting_33 : decode cX8_readsSetting 33 = .ok (.iastore, 1) := by decide +kernel
theorem dX8_readsSetting_34 : decode cX8_readsSetting 34 = .ok (.return_, 1) := by decide +kernel
set_option maxRecDepth 20000 in
theorem ggX8_readsStatement_X8_isWord : GoodIn wsX8_readsStatement wsX8_isWord := goodIn_r _ [5, 6, 7, 8, 9, 10, 11, 12, 13, 14, 15, 16, 17, 18, 19, 20, 21, 22, 23, 24, 25, 26, 27, 28, 29, 30, 31, 32, 33, 34, 35, 36, 37, 38, 39, 40, 41, 42, 43, 44, 45, 46, 47, 48, 49, 50, 51, 52, 53, 54, 55, 56, 57, 58, 59, 112, 113, 114, 115, 116, 117, 118, 119, 120, 121, 122, 123, 124, 125, 126, 127, 128, 129, 130, 131] (by decide +kernel) (by decide +kernel)
set_option maxRecDepth 20000 in
theorem gX8_readsStatement_X8_isWord : GoodIn wsX8_readsStatement (wsV RX8 127 RX8 yX8_isWord wsX8_isWord) := goodIn_app (goodIn_of _ (by decide +kernel)) ggX8_readsStatement_X8_isWord
set_option maxRecDepth 20000 in
theorem ggX8_readsStatement_X8_readsRow : GoodIn wsX8_readsStatement wsX8_readsRow := goodIn_r _ [63, 64, 6, 65, 66, 67, 4, 68, 9, 69, 70, 71, 72, 73, 74, 75, 76, 77, 8, 78, 7, 79, 80, 81, 82, 83, 84, 10, 85, 86, 87, 88, 89, 90, 91, 92, 93, 94, 95, 96, 97, 98, 99, 100, 101, 112, 113, 114, 115, 116, 117, 118, 119, 120, 121, 122, 123, 124, 125, 126, 127, 128, 129, 130, 131] (by decide +kernel) (by decide +kernel)
set_option maxRecDepth 20000 in
theorem gX8_readsStatement_X8_readsRow : GoodIn wsX8_readsStatement (wsV RX8 131 RX8 yX8_readsRow wsX8_readsRow) := goodIn_app (goodIn_of _ (by decide +kernel)) ggX8_readsStatement_X8_readsRow
set_option maxRecDepth 20000 in
theorem ggX8_readsStatement_X8_readsSetting : GoodIn wsX8_readsStatement wsX8_readsSetting := goodIn_r _ [105, 6, 64, 70, 71, 72, 4, 73, 65, 66, 67, 68, 9, 69, 74, 75, 76, 77, 8, 78, 7, 79, 80, 81, 82, 83, 84, 10, 85, 86, 87, 88, 89, 90, 91, 92, 93, 106, 107, 108, 109, 110, 111, 94, 95, 96, 97, 112, 113, 114, 115, 116, 117, 118, 119, 120, 121, 122, 123, 124, 125, 126, 127, 128, 129, 130, 131] (by decide +kernel) (by decide +kernel)
set_option maxRecDepth 20000 in
theorem gX8_readsStatement_X8_readsSetting : GoodIn wsX8_readsStatement (wsV RX8 136 RX8 yX8_readsSetting wsX8_readsSetting) := goodIn_app (goodIn_of _ (by decide +kernel)) ggX8_readsStatement_X8_readsSetting
set_option maxRecDepth 20000 in
theorem ggX8_readsStatement_X8_fails : GoodIn wsX8_readsStatement wsX8_fails := goodIn_r _ [68, 6, 9, 69, 112, 113, 114, 115, 116, 117, 118, 119, 120, 121, 122, 123, 124, 125, 126, 127, 128, 129, 130, 131] (by decide +kernel) (by decide +kernel)
set_option maxRecDepth 20000 in
theorem gX8_readsStatement_X8_fails : GoodIn wsX8_readsStatement (wsV RX8 101 RX8 yX8_fails wsX8_fails) := goodIn_app (goodIn_of _ (by decide +kernel)) ggX8_readsStatement_X8_fails
set_option maxRecDepth 20000 in
theorem ggX8_readsStatement_X8_isSign : GoodIn wsX8_readsStatement wsX8_isSign := goodIn_r _ [101, 6, 7, 9, 81, 82, 83, 4, 84, 78, 10, 112, 113, 114, 115, 116, 117, 118, 119, 120, 121, 122, 123, 124, 125, 126, 127, 128, 129, 130, 131] (by decide +kernel) (by decide +kernel)
set_option maxRecDepth 20000 in
theorem gX8_readsStatement_X8_isSign : GoodIn wsX8_readsStatement (wsV RX8 116 RX8 yX8_isSign wsX8_isSign) := goodIn_app (goodIn_of _ (by decide +kernel)) ggX8_readsStatement_X8_isSign
set_option maxRecDepth 20000 in
theorem ggX8_readsStatement_X8_must : GoodIn wsX8_readsStatement wsX8_must := goodIn_r _ [73, 6, 65, 66, 67, 4, 68, 9, 69, 74, 75, 76, 77, 8, 78, 7, 79, 80, 81, 82, 83, 84, 10, 85, 86, 87, 88, 89, 90, 91, 92, 93, 112, 113, 114, 115, 116, 117, 118, 119, 120, 121, 122, 123, 124, 125, 126, 127, 128, 129, 130, 131] (by decide +kernel) (by decide +kernel)
set_option maxRecDepth 20000 in
theorem gX8_readsStatement_X8_must : GoodIn wsX8_readsStatement (wsV RX8 108 RX8 yX8_must wsX8_must) := goodIn_app (goodIn_of _ (by decide +kernel)) ggX8_readsStatement_X8_must
theorem dX8_readsStatement_0 : decode cX8_readsStatement 0 = .ok (.aload_n 0, 1) := by decide +kernel
theorem dX8_readsStatement_1 : decode cX8_readsStatement 1 = .ok (.ldc 125, 2) := by decide +kernel
theorem dX8_readsStatement_3 : decode cX8_readsStatement 3 = .ok (.invokevirtual 127, 3) := by decide +kernel
theorem dX8_readsStatement_6 : decode cX8_readsStatement 6 = .ok (.ifCond .eq 10, 3) := by decide +kernel
theorem dX8_readsStatement_9 : decode cX8_readsStatement 9 = .ok (.aload_n 0, 1) := by decide +kernel
theorem dX8_readsStatement_10 : decode cX8_readsStatement 10 = .ok (.invokevirtual 131, 3) := by decide +kernel
theorem dX8_readsStatement_13 : decode cX8_readsStatement 13 = .ok (.goto 77, 3) := by decide +kernel
theorem dX8_readsStatement_16 : decode cX8_readsStatement 16 = .ok (.aload_n 0, 1) := by decide +kernel
theorem dX8_readsStatement_17 : decode cX8_readsStatement 17 = .ok (.ldc 134, 2) := by decide +kernel
theorem dX8_readsStatement_19 : decode cX8_readsStatement 19 = .ok (.invokevirtual 127, 3) := by decide +kernel
theorem dX8_readsStatement_22 : decode cX8_readsStatement 22 = .ok (.ifCond .eq 11, 3) := by decide +kernel
theorem dX8_readsStatement_25 : decode cX8_readsStatement 25 = .ok (.aload_n 0, 1) := by decide +kernel
theorem dX8_readsStatement_26 : decode cX8_readsStatement 26 = .ok (.iconst 0, 1) := by decide +kernel
theorem dX8_readsStatement_27 : decode cX8_readsStatement 27 = .ok (.invokevirtual 136, 3) := by decide +kernel
theorem dX8_readsStatement_30 : decode cX8_readsStatement 30 = .ok (.goto 60, 3) := by decide +kernel
theorem dX8_readsStatement_33 : decode cX8_readsStatement 33 = .ok (.aload_n 0, 1) := by decide +kernel
theorem dX8_readsStatement_34 : decode cX8_readsStatement 34 = .ok (.ldc 139, 2) := by decide +kernel
theorem dX8_readsStatement_36 : decode cX8_readsStatement 36 = .ok (.invokevirtual 127, 3) := by decide +kernel
theorem dX8_readsStatement_39 : decode cX8_readsStatement 39 = .ok (.ifCond .eq 11, 3) := by decide +kernel
theorem dX8_readsStatement_42 : decode cX8_readsStatement 42 = .ok (.aload_n 0, 1) := by decide +kernel
theorem dX8_readsStatement_43 : decode cX8_readsStatement 43 = .ok (.iconst 1, 1) := by decide +kernel
theorem dX8_readsStatement_44 : decode cX8_readsStatement 44 = .ok (.invokevirtual 136, 3) := by decide +kernel
theorem dX8_readsStatement_47 : decode cX8_readsStatement 47 = .ok (.goto 43, 3) := by decide +kernel
theorem dX8_readsStatement_50 : decode cX8_readsStatement 50 = .ok (.aload_n 0, 1) := by decide +kernel
theorem dX8_readsStatement_51 : decode cX8_readsStatement 51 = .ok (.ldc 140, 2) := by decide +kernel
theorem dX8_readsStatement_53 : decode cX8_readsStatement 53 = .ok (.invokevirtual 127, 3) := by decide +kernel
theorem dX8_readsStatement_56 : decode cX8_readsStatement 56 = .ok (.ifCond .eq 11, 3) := by decide +kernel
theorem dX8_readsStatement_59 : decode cX8_readsStatement 59 = .ok (.aload_n 0, 1) := by decide +kernel
theorem dX8_readsStatement_60 : decode cX8_readsStatement 60 = .ok (.iconst 2, 1) := by decide +kernel
theorem dX8_readsStatement_61 : decode cX8_readsStatement 61 = .ok (.invokevirtual 136, 3) := by decide +kernel
theorem dX8_readsStatement_64 : decode cX8_readsStatement 64 = .ok (.goto 26, 3) := by decide +kernel
theorem dX8_readsStatement_67 : decode cX8_readsStatement 67 = .ok (.aload_n 0, 1) := by decide +kernel
theorem dX8_readsStatement_68 : decode cX8_readsStatement 68 = .ok (.ldc 142, 2) := by decide +kernel
theorem dX8_readsStatement_70 : decode cX8_readsStatement 70 = .ok (.invokevirtual 127, 3) := by decide +kernel
theorem dX8_readsStatement_73 : decode cX8_readsStatement 73 = .ok (.ifCond .eq 11, 3) := by decide +kernel
theorem dX8_readsStatement_76 : decode cX8_readsStatement 76 = .ok (.aload_n 0, 1) := by decide +kernel
theorem dX8_readsStatement_77 : decode cX8_readsStatement 77 = .ok (.iconst 3, 1) := by decide +kernel
theorem dX8_readsStatement_78 : decode cX8_readsStatement 78 = .ok (.invokevirtual 136, 3) := by decide +kernel
theorem dX8_readsStatement_81 : decode cX8_readsStatement 81 = .ok (.goto 9, 3) := by decide +kernel
theorem dX8_readsStatement_84 : decode cX8_readsStatement 84 = .ok (.aload_n 0, 1) := by decide +kernel
theorem dX8_readsStatement_85 : decode cX8_readsStatement 85 = .ok (.bipush (-2), 2) := by decide +kernel
theorem dX8_readsStatement_87 : decode cX8_readsStatement 87 = .ok (.invokevirtual 101, 3) := by decide +kernel
theorem dX8_readsStatement_90 : decode cX8_readsStatement 90 = .ok (.aload_n 0, 1) := by decide +kernel
theorem dX8_readsStatement_91 : decode cX8_readsStatement 91 = .ok (.aload_n 0, 1) := by decide +kernel
theorem dX8_readsStatement_92 : decode cX8_readsStatement 92 = .ok (.bipush 59, 2) := by decide +kernel
theorem dX8_readsStatement_94 : decode cX8_readsStatement 94 = .ok (.invokevirtual 116, 3) := by decide +kernel
theorem dX8_readsStatement_97 : decode cX8_readsStatement 97 = .ok (.invokevirtual 108, 3) := by decide +kernel
theorem dX8_readsStatement_100 : decode cX8_readsStatement 100 = .ok (.return_, 1) := by decide +kernel
set_option maxRecDepth 20000 in
theorem ggX8_load_X8_isIn : GoodIn wsX8_load wsX8_isIn := goodIn_r _ [14] (by decide +kernel) (by decide +kernel)
set_option maxRecDepth 20000 in
theorem gX8_load_X8_isIn : GoodIn wsX8_load (va_wsS RX8 57 yX8_isIn wsX8_isIn) := goodIn_app (goodIn_of _ (by decide +kernel)) ggX8_load_X8_isIn
set_option maxRecDepth 20000 in
theorem ggX8_load_X8_begins : GoodIn wsX8_load wsX8_begins := goodIn_r _ [18, 10, 137, 138, 139, 140, 141, 142, 143, 144, 145, 146, 147, 148, 149, 150, 151, 152, 153, 154, 155, 156] (by decide +kernel) (by decide +kernel)
set_option maxRecDepth 20000 in
theorem gX8_load_X8_begins : GoodIn wsX8_load (wsV RX8 35 RX8 yX8_begins wsX8_begins) := goodIn_app (goodIn_of _ (by decide +kernel)) ggX8_load_X8_begins
set_option maxRecDepth 20000 in
theorem ggX8_load_X8_next : GoodIn wsX8_load wsX8_next := goodIn_r _ [22, 4, 23, 3, 6, 24, 25, 26, 27, 28, 13, 29, 30, 31, 32, 33, 11, 12, 14, 34, 35, 36, 137, 138, 139, 140, 141, 142, 143, 144, 145, 146, 147, 148, 149, 150, 151, 152, 153, 154, 155, 156] (by decide +kernel) (by decide +kernel)
set_option maxRecDepth 20000 in
theorem gX8_load_X8_next : GoodIn wsX8_load (wsV RX8 105 RX8 yX8_next wsX8_next) := goodIn_app (goodIn_of _ (by decide +kernel)) ggX8_load_X8_next
set_option maxRecDepth 20000 in
theorem ggX8_load_X8_readsStatement : GoodIn wsX8_load wsX8_readsStatement := goodIn_r _ [40, 41, 42, 43, 13, 44, 5, 6, 4, 23, 30, 45, 46, 47, 48, 49, 50, 51, 52, 53, 54, 55, 56, 57, 58, 59, 60, 61, 62, 63, 64, 65, 66, 67, 68, 69, 70, 71, 72, 73, 74, 75, 76, 77, 78, 79, 80, 81, 82, 83, 84, 85, 86, 87, 88, 89, 90, 91, 92, 93, 94, 95, 96, 97, 10, 98, 99, 100, 101, 7, 102, 103, 104, 105, 19, 20, 21, 22, 3, 24, 25, 26, 27, 28, 29, 31, 32, 33, 11, 12, 14, 34, 35, 36, 106, 107, 108, 109, 110, 111, 112, 113, 114, 115, 116, 117, 118, 119, 120, 121, 122, 123, 137, 138, 139, 140, 141, 142, 143, 144, 145, 146, 147, 148, 149, 150, 151, 152, 153, 154, 155, 156] (by decide +kernel) (by decide +kernel)
set_option maxRecDepth 20000 in
theorem gX8_load_X8_readsStatement : GoodIn wsX8_load (wsV RX8 144 RX8 yX8_readsStatement wsX8_readsStatement) := goodIn_app (goodIn_of _ (by decide +kernel)) ggX8_load_X8_readsStatement
set_option maxRecDepth 20000 in
theorem ggX8_load_X8_keeps : GoodIn wsX8_load wsX8_keeps := goodIn_r _ [127, 128, 129, 9, 137, 138, 139, 140, 141, 142, 143, 144, 145, 146, 147, 148, 149, 150, 151, 152, 153, 154, 155, 156] (by decide +kernel) (by decide +kernel)
set_option maxRecDepth 20000 in
theorem gX8_load_X8_keeps : GoodIn wsX8_load (wsV RX8 147 RX8 yX8_keeps wsX8_keeps) := goodIn_app (goodIn_of _ (by decide +kernel)) ggX8_load_X8_keeps
set_option maxRecDepth 20000 in
theorem ggX8_load_X8_sets : GoodIn wsX8_load wsX8_sets := goodIn_r _ [132] (by decide +kernel) (by decide +kernel)
set_option maxRecDepth 20000 in
theorem gX8_load_X8_sets : GoodIn wsX8_load (va_wsS RX8 38 yX8_sets wsX8_sets) := goodIn_app (goodIn_of _ (by decide +kernel)) ggX8_load_X8_sets
set_option maxRecDepth 20000 in
theorem ggX8_load_X8_lays : GoodIn wsX8_load wsX8_lays := goodIn_r _ [136, 9, 137, 138, 139, 140, 141, 142, 143, 144, 145, 146, 147, 148, 149, 150, 151, 152, 153, 154, 155, 156] (by decide +kernel) (by decide +kernel)
set_option maxRecDepth 20000 in
theorem gX8_load_X8_lays : GoodIn wsX8_load (wsV RX8 42 RX8 yX8_lays wsX8_lays) := goodIn_app (goodIn_of _ (by decide +kernel)) ggX8_load_X8_lays
theorem dX8_load_0 : decode cX8_load 0 = .ok (.aload_n 0, 1) := by decide +kernel
theorem dX8_load_1 : decode cX8_load 1 = .ok (.iload_n 1, 1) := by decide +kernel
theorem dX8_load_2 : decode cX8_load 2 = .ok (.iconst 0, 1) := by decide +kernel
theorem dX8_load_3 : decode cX8_load 3 = .ok (.aload_n 0, 1) := by decide +kernel
theorem dX8_load_4 : decode cX8_load 4 = .ok (.getfield 51, 3) := by decide +kernel
theorem dX8_load_7 : decode cX8_load 7 = .ok (.invokestatic 57, 3) := by decide +kernel
theorem dX8_load_10 : decode cX8_load 10 = .ok (.ifCond .eq 7, 3) := by decide +kernel
theorem dX8_load_13 : decode cX8_load 13 = .ok (.iconst 0, 1) := by decide +kernel
theorem dX8_load_14 : decode cX8_load 14 = .ok (.goto 4, 3) := by decide +kernel
theorem dX8_load_17 : decode cX8_load 17 = .ok (.iconst 1, 1) := by decide +kernel
theorem dX8_load_18 : decode cX8_load 18 = .ok (.putfield 45, 3) := by decide +kernel
theorem dX8_load_21 : decode cX8_load 21 = .ok (.aload_n 0, 1) := by decide +kernel
theorem dX8_load_22 : decode cX8_load 22 = .ok (.getfield 45, 3) := by decide +kernel
theorem dX8_load_25 : decode cX8_load 25 = .ok (.ifCond .le 5, 3) := by decide +kernel
theorem dX8_load_28 : decode cX8_load 28 = .ok (.iconst 0, 1) := by decide +kernel
theorem dX8_load_29 : decode cX8_load 29 = .ok (.ireturn, 1) := by decide +kernel
theorem dX8_load_30 : decode cX8_load 30 = .ok (.aload_n 0, 1) := by decide +kernel
theorem dX8_load_31 : decode cX8_load 31 = .ok (.iload_n 1, 1) := by decide +kernel
theorem dX8_load_32 : decode cX8_load 32 = .ok (.putfield 54, 3) := by decide +kernel
theorem dX8_load_35 : decode cX8_load 35 = .ok (.aload_n 0, 1) := by decide +kernel
theorem dX8_load_36 : decode cX8_load 36 = .ok (.iconst 0, 1) := by decide +kernel
theorem dX8_load_37 : decode cX8_load 37 = .ok (.putfield 51, 3) := by decide +kernel
theorem dX8_load_40 : decode cX8_load 40 = .ok (.aload_n 0, 1) := by decide +kernel
theorem dX8_load_41 : decode cX8_load 41 = .ok (.iconst 0, 1) := by decide +kernel
theorem dX8_load_42 : decode cX8_load 42 = .ok (.putfield 61, 3) := by decide +kernel
theorem dX8_load_45 : decode cX8_load 45 = .ok (.aload_n 0, 1) := by decide +kernel
theorem dX8_load_46 : decode cX8_load 46 = .ok (.iconst 0, 1) := by decide +kernel
theorem dX8_load_47 : decode cX8_load 47 = .ok (.putfield 85, 3) := by decide +kernel
theorem dX8_load_50 : decode cX8_load 50 = .ok (.aload_n 0, 1) := by decide +kernel
theorem dX8_load_51 : decode cX8_load 51 = .ok (.invokevirtual 35, 3) := by decide +kernel
theorem dX8_load_54 : decode cX8_load 54 = .ok (.aload_n 0, 1) := by decide +kernel
theorem dX8_load_55 : decode cX8_load 55 = .ok (.invokevirtual 105, 3) := by decide +kernel
theorem dX8_load_58 : decode cX8_load 58 = .ok (.aload_n 0, 1) := by decide +kernel
theorem dX8_load_59 : decode cX8_load 59 = .ok (.getfield 85, 3) := by decide +kernel
theorem dX8_load_62 : decode cX8_load 62 = .ok (.ifCond .ne 18, 3) := by decide +kernel
theorem dX8_load_65 : decode cX8_load 65 = .ok (.aload_n 0, 1) := by decide +kernel
theorem dX8_load_66 : decode cX8_load 66 = .ok (.getfield 71, 3) := by decide +kernel
theorem dX8_load_69 : decode cX8_load 69 = .ok (.iconst 3, 1) := by decide +kernel
theorem dX8_load_70 : decode cX8_load 70 = .ok (.if_icmp .eq 10, 3) := by decide +kernel
theorem dX8_load_73 : decode cX8_load 73 = .ok (.aload_n 0, 1) := by decide +kernel
theorem dX8_load_74 : decode cX8_load 74 = .ok (.invokevirtual 144, 3) := by decide +kernel
theorem dX8_load_77 : decode cX8_load 77 = .ok (.goto (-19), 3) := by decide +kernel
theorem dX8_load_80 : decode cX8_load 80 = .ok (.aload_n 0, 1) := by decide +kernel
theorem dX8_load_81 : decode cX8_load 81 = .ok (.aload_n 0, 1) := by decide +kernel
theorem dX8_load_82 : decode cX8_load 82 = .ok (.getfield 85, 3) := by decide +kernel
theorem dX8_load_85 : decode cX8_load 85 = .ok (.ifCond .ne 7, 3) := by decide +kernel
theorem dX8_load_88 : decode cX8_load 88 = .ok (.iconst (-1), 1) := by decide +kernel
theorem dX8_load_89 : decode cX8_load 89 = .ok (.goto 7, 3) := by decide +kernel
theorem dX8_load_92 : decode cX8_load 92 = .ok (.aload_n 0, 1) := by decide +kernel
theorem dX8_load_93 : decode cX8_load 93 = .ok (.getfield 98, 3) := by decide +kernel
theorem dX8_load_96 : decode cX8_load 96 = .ok (.putfield 25, 3) := by decide +kernel
theorem dX8_load_99 : decode cX8_load 99 = .ok (.aload_n 0, 1) := by decide +kernel
theorem dX8_load_100 : decode cX8_load 100 = .ok (.getfield 85, 3) := by decide +kernel
theorem dX8_load_103 : decode cX8_load 103 = .ok (.ifCond .eq 8, 3) := by decide +kernel
theorem dX8_load_106 : decode cX8_load 106 = .ok (.aload_n 0, 1) := by decide +kernel
theorem dX8_load_107 : decode cX8_load 107 = .ok (.getfield 85, 3) := by decide +kernel
theorem dX8_load_110 : decode cX8_load 110 = .ok (.ireturn, 1) := by decide +kernel
theorem dX8_load_111 : decode cX8_load 111 = .ok (.aload_n 0, 1) := by decide +kernel
theorem dX8_load_112 : decode cX8_load 112 = .ok (.invokevirtual 147, 3) := by decide +kernel
theorem dX8_load_115 : decode cX8_load 115 = .ok (.aload_n 0, 1) := by decide +kernel
theorem dX8_load_116 : decode cX8_load 116 = .ok (.getfield 7, 3) := by decide +kernel
theorem dX8_load_119 : decode cX8_load 119 = .ok (.aload_n 0, 1) := by decide +kernel
theorem dX8_load_120 : decode cX8_load 120 = .ok (.getfield 13, 3) := by decide +kernel
theorem dX8_load_123 : decode cX8_load 123 = .ok (.invokestatic 38, 3) := by decide +kernel
theorem dX8_load_126 : decode cX8_load 126 = .ok (.aload_n 0, 1) := by decide +kernel
theorem dX8_load_127 : decode cX8_load 127 = .ok (.invokevirtual 42, 3) := by decide +kernel
theorem dX8_load_130 : decode cX8_load 130 = .ok (.aload_n 0, 1) := by decide +kernel
theorem dX8_load_131 : decode cX8_load 131 = .ok (.getfield 7, 3) := by decide +kernel
theorem dX8_load_134 : decode cX8_load 134 = .ok (.iconst 0, 1) := by decide +kernel
theorem dX8_load_135 : decode cX8_load 135 = .ok (.iaload, 1) := by decide +kernel
theorem dX8_load_136 : decode cX8_load 136 = .ok (.ireturn, 1) := by decide +kernel
theorem dX8_errorPosition_0 : decode cX8_errorPosition 0 = .ok (.aload_n 0, 1) := by decide +kernel
theorem dX8_errorPosition_1 : decode cX8_errorPosition 1 = .ok (.iconst 0, 1) := by decide +kernel
theorem dX8_errorPosition_2 : decode cX8_errorPosition 2 = .ok (.putfield 45, 3) := by decide +kernel
theorem dX8_errorPosition_5 : decode cX8_errorPosition 5 = .ok (.aload_n 0, 1) := by decide +kernel
theorem dX8_errorPosition_6 : decode cX8_errorPosition 6 = .ok (.getfield 25, 3) := by decide +kernel
theorem dX8_errorPosition_9 : decode cX8_errorPosition 9 = .ok (.ireturn, 1) := by decide +kernel
theorem dX8_of_0 : decode cX8_of 0 = .ok (.aload_n 0, 1) := by decide +kernel
theorem dX8_of_1 : decode cX8_of 1 = .ok (.getfield 7, 3) := by decide +kernel
theorem dX8_of_4 : decode cX8_of 4 = .ok (.sipush 540, 3) := by decide +kernel
theorem dX8_of_7 : decode cX8_of 7 = .ok (.iconst 4, 1) := by decide +kernel
theorem dX8_of_8 : decode cX8_of 8 = .ok (.iload_n 1, 1) := by decide +kernel
theorem dX8_of_9 : decode cX8_of 9 = .ok (.imul, 1) := by decide +kernel
theorem dX8_of_10 : decode cX8_of 10 = .ok (.iadd, 1) := by decide +kernel
theorem dX8_of_11 : decode cX8_of 11 = .ok (.iload_n 2, 1) := by decide +kernel
theorem dX8_of_12 : decode cX8_of 12 = .ok (.iadd, 1) := by decide +kernel
theorem dX8_of_13 : decode cX8_of 13 = .ok (.iaload, 1) := by decide +kernel
theorem dX8_of_14 : decode cX8_of 14 = .ok (.ireturn, 1) := by decide +kernel
theorem dX8_puts_0 : decode cX8_puts 0 = .ok (.aload_n 0, 1) := by decide +kernel
theorem dX8_puts_1 : decode cX8_puts 1 = .ok (.getfield 7, 3) := by decide +kernel
theorem dX8_puts_4 : decode cX8_puts 4 = .ok (.sipush 540, 3) := by decide +kernel
theorem dX8_puts_7 : decode cX8_puts 7 = .ok (.iconst 4, 1) := by decide +kernel
theorem dX8_puts_8 : decode cX8_puts 8 = .ok (.iload_n 1, 1) := by decide +kernel
theorem dX8_puts_9 : decode cX8_puts 9 = .ok (.imul, 1) := by decide +kernel
theorem dX8_puts_10 : decode cX8_puts 10 = .ok (.iadd, 1) := by decide +kernel
theorem dX8_puts_11 : decode cX8_puts 11 = .ok (.iload_n 2, 1) := by decide +kernel
theorem dX8_puts_12 : decode cX8_puts 12 = .ok (.iadd, 1) := by decide +kernel
theorem dX8_puts_13 : decode cX8_puts 13 = .ok (.iload_n 3, 1) := by decide +kernel
theorem dX8_puts_14 : decode cX8_puts 14 = .ok (.iastore, 1) := by decide +kernel
theorem dX8_puts_15 : decode cX8_puts 15 = .ok (.return_, 1) := by decide +kernel
set_option maxRecDepth 20000 in
theorem ggX8_firstPlace_X8_of : GoodIn wsX8_firstPlace wsX8_of := goodIn_r _ [5, 6, 7, 8, 9, 10, 11, 12, 13, 14, 15, 16, 17, 18, 19, 20, 21, 22, 23, 24, 25, 26] (by decide +kernel) (by decide +kernel)
set_option maxRecDepth 20000 in
theorem gX8_firstPlace_X8_of : GoodIn wsX8_firstPlace (wsV RX8 150 RX8 yX8_of wsX8_of) := goodIn_app (goodIn_of _ (by decide +kernel)) ggX8_firstPlace_X8_of
theorem dX8_firstPlace_0 : decode cX8_firstPlace 0 = .ok (.iconst 0, 1) := by decide +kernel
theorem dX8_firstPlace_1 : decode cX8_firstPlace 1 = .ok (.istore_n 2, 1) := by decide +kernel
theorem dX8_firstPlace_2 : decode cX8_firstPlace 2 = .ok (.iconst 0, 1) := by decide +kernel
theorem dX8_firstPlace_3 : decode cX8_firstPlace 3 = .ok (.istore_n 3, 1) := by decide +kernel
theorem dX8_firstPlace_4 : decode cX8_firstPlace 4 = .ok (.iload_n 3, 1) := by decide +kernel
theorem dX8_firstPlace_5 : decode cX8_firstPlace 5 = .ok (.iload_n 1, 1) := by decide +kernel
theorem dX8_firstPlace_6 : decode cX8_firstPlace 6 = .ok (.if_icmp .ge 18, 3) := by decide +kernel
theorem dX8_firstPlace_9 : decode cX8_firstPlace 9 = .ok (.iload_n 2, 1) := by decide +kernel
theorem dX8_firstPlace_10 : decode cX8_firstPlace 10 = .ok (.aload_n 0, 1) := by decide +kernel
theorem dX8_firstPlace_11 : decode cX8_firstPlace 11 = .ok (.iload_n 3, 1) := by decide +kernel
theorem dX8_firstPlace_12 : decode cX8_firstPlace 12 = .ok (.iconst 1, 1) := by decide +kernel
theorem dX8_firstPlace_13 : decode cX8_firstPlace 13 = .ok (.invokevirtual 150, 3) := by decide +kernel
theorem dX8_firstPlace_16 : decode cX8_firstPlace 16 = .ok (.iadd, 1) := by decide +kernel
theorem dX8_firstPlace_17 : decode cX8_firstPlace 17 = .ok (.istore_n 2, 1) := by decide +kernel
theorem dX8_firstPlace_18 : decode cX8_firstPlace 18 = .ok (.iinc 3 1, 3) := by decide +kernel
theorem dX8_firstPlace_21 : decode cX8_firstPlace 21 = .ok (.goto (-17), 3) := by decide +kernel
theorem dX8_firstPlace_24 : decode cX8_firstPlace 24 = .ok (.iload_n 2, 1) := by decide +kernel
theorem dX8_firstPlace_25 : decode cX8_firstPlace 25 = .ok (.ireturn, 1) := by decide +kernel
set_option maxRecDepth 20000 in
theorem ggX8_lastPiece_X8_of : GoodIn wsX8_lastPiece wsX8_of := goodIn_r _ [6, 1, 7, 8, 9, 10, 11, 12, 13, 14, 15, 16, 17, 18, 19, 20, 21, 22, 23, 24, 25, 26] (by decide +kernel) (by decide +kernel)
set_option maxRecDepth 20000 in
theorem gX8_lastPiece_X8_of : GoodIn wsX8_lastPiece (wsV RX8 150 RX8 yX8_of wsX8_of) := goodIn_app (goodIn_of _ (by decide +kernel)) ggX8_lastPiece_X8_of
theorem dX8_lastPiece_0 : decode cX8_lastPiece 0 = .ok (.aload_n 0, 1) := by decide +kernel
theorem dX8_lastPiece_1 : decode cX8_lastPiece 1 = .ok (.getfield 7, 3) := by decide +kernel
theorem dX8_lastPiece_4 : decode cX8_lastPiece 4 = .ok (.iconst 3, 1) := by decide +kernel
theorem dX8_lastPiece_5 : decode cX8_lastPiece 5 = .ok (.iaload, 1) := by decide +kernel
theorem dX8_lastPiece_6 : decode cX8_lastPiece 6 = .ok (.iconst 1, 1) := by decide +kernel
theorem dX8_lastPiece_7 : decode cX8_lastPiece 7 = .ok (.isub, 1) := by decide +kernel
theorem dX8_lastPiece_8 : decode cX8_lastPiece 8 = .ok (.istore_n 2, 1) := by decide +kernel
theorem dX8_lastPiece_9 : decode cX8_lastPiece 9 = .ok (.aload_n 0, 1) := by decide +kernel
theorem dX8_lastPiece_10 : decode cX8_lastPiece 10 = .ok (.iload_n 2, 1) := by decide +kernel
theorem dX8_lastPiece_11 : decode cX8_lastPiece 11 = .ok (.iconst 0, 1) := by decide +kernel
theorem dX8_lastPiece_12 : decode cX8_lastPiece 12 = .ok (.invokevirtual 150, 3) := by decide +kernel
theorem dX8_lastPiece_15 : decode cX8_lastPiece 15 = .ok (.iload_n 1, 1) := by decide +kernel
theorem dX8_lastPiece_16 : decode cX8_lastPiece 16 = .ok (.if_icmp .le 9, 3) := by decide +kernel
theorem dX8_lastPiece_19 : decode cX8_lastPiece 19 = .ok (.iinc 2 (-1), 3) := by decide +kernel
theorem dX8_lastPiece_22 : decode cX8_lastPiece 22 = .ok (.goto (-13), 3) := by decide +kernel
theorem dX8_lastPiece_25 : decode cX8_lastPiece 25 = .ok (.iload_n 2, 1) := by decide +kernel
theorem dX8_lastPiece_26 : decode cX8_lastPiece 26 = .ok (.ireturn, 1) := by decide +kernel
theorem dX8_keyAt_0 : decode cX8_keyAt 0 = .ok (.aload_n 0, 1) := by decide +kernel
theorem dX8_keyAt_1 : decode cX8_keyAt 1 = .ok (.getfield 7, 3) := by decide +kernel
theorem dX8_keyAt_4 : decode cX8_keyAt 4 = .ok (.bipush 20, 2) := by decide +kernel
theorem dX8_keyAt_6 : decode cX8_keyAt 6 = .ok (.aload_n 0, 1) := by decide +kernel
theorem dX8_keyAt_7 : decode cX8_keyAt 7 = .ok (.getfield 7, 3) := by decide +kernel
theorem dX8_keyAt_10 : decode cX8_keyAt 10 = .ok (.sipush 380, 3) := by decide +kernel
theorem dX8_keyAt_13 : decode cX8_keyAt 13 = .ok (.iload_n 1, 1) := by decide +kernel
theorem dX8_keyAt_14 : decode cX8_keyAt 14 = .ok (.iadd, 1) := by decide +kernel
theorem dX8_keyAt_15 : decode cX8_keyAt 15 = .ok (.iaload, 1) := by decide +kernel
theorem dX8_keyAt_16 : decode cX8_keyAt 16 = .ok (.iadd, 1) := by decide +kernel
theorem dX8_keyAt_17 : decode cX8_keyAt 17 = .ok (.iaload, 1) := by decide +kernel
theorem dX8_keyAt_18 : decode cX8_keyAt 18 = .ok (.ireturn, 1) := by decide +kernel
theorem dX8_logOf_0 : decode cX8_logOf 0 = .ok (.iconst 0, 1) := by decide +kernel
theorem dX8_logOf_1 : decode cX8_logOf 1 = .ok (.istore_n 1, 1) := by decide +kernel
theorem dX8_logOf_2 : decode cX8_logOf 2 = .ok (.iconst 1, 1) := by decide +kernel
theorem dX8_logOf_3 : decode cX8_logOf 3 = .ok (.iload_n 1, 1) := by decide +kernel
theorem dX8_logOf_4 : decode cX8_logOf 4 = .ok (.ishl, 1) := by decide +kernel
theorem dX8_logOf_5 : decode cX8_logOf 5 = .ok (.iload_n 0, 1) := by decide +kernel
theorem dX8_logOf_6 : decode cX8_logOf 6 = .ok (.if_icmp .ge 9, 3) := by decide +kernel
theorem dX8_logOf_9 : decode cX8_logOf 9 = .ok (.iinc 1 1, 3) := by decide +kernel
theorem dX8_logOf_12 : decode cX8_logOf 12 = .ok (.goto (-10), 3) := by decide +kernel
theorem dX8_logOf_15 : decode cX8_logOf 15 = .ok (.iload_n 1, 1) := by decide +kernel
theorem dX8_logOf_16 : decode cX8_logOf 16 = .ok (.ireturn, 1) := by decide +kernel
set_option maxRecDepth 20000 in
theorem ggX8_cracks_X8_lastPiece : GoodIn wsX8_cracks wsX8_lastPiece := goodIn_r _ [7, 2, 8, 9, 10, 6, 11, 27, 28, 29, 30, 31, 32, 33, 34, 35, 36, 37, 38, 39, 40, 41, 42, 43, 44, 45, 46] (by decide +kernel) (by decide +kernel)
set_option maxRecDepth 20000 in
theorem gX8_cracks_X8_lastPiece : GoodIn wsX8_cracks (wsV RX8 153 RX8 yX8_lastPiece wsX8_lastPiece) := goodIn_app (goodIn_of _ (by decide +kernel)) ggX8_cracks_X8_lastPiece
set_option maxRecDepth 20000 in
theorem ggX8_cracks_X8_of : GoodIn wsX8_cracks wsX8_of := goodIn_r _ [11, 2, 27, 28, 29, 30, 31, 32, 33, 34, 35, 36, 37, 38, 39, 40, 41, 42, 43, 44, 45, 46] (by decide +kernel) (by decide +kernel)
set_option maxRecDepth 20000 in
theorem gX8_cracks_X8_of : GoodIn wsX8_cracks (wsV RX8 150 RX8 yX8_of wsX8_of) := goodIn_app (goodIn_of _ (by decide +kernel)) ggX8_cracks_X8_of
set_option maxRecDepth 20000 in
theorem ggX8_cracks_X8_firstPlace : GoodIn wsX8_cracks wsX8_firstPlace := goodIn_r _ [15, 8, 9, 10, 6, 11, 2, 27, 28, 29, 30, 31, 32, 33, 34, 35, 36, 37, 38, 39, 40, 41, 42, 43, 44, 45, 46] (by decide +kernel) (by decide +kernel)
set_option maxRecDepth 20000 in
theorem gX8_cracks_X8_firstPlace : GoodIn wsX8_cracks (wsV RX8 156 RX8 yX8_firstPlace wsX8_firstPlace) := goodIn_app (goodIn_of _ (by decide +kernel)) ggX8_cracks_X8_firstPlace
set_option maxRecDepth 20000 in
theorem ggX8_cracks_X8_keyAt : GoodIn wsX8_cracks wsX8_keyAt := goodIn_r _ [19, 2, 27, 28, 29, 30, 31, 32, 33, 34, 35, 36, 37, 38, 39, 40, 41, 42, 43, 44, 45, 46] (by decide +kernel) (by decide +kernel)
set_option maxRecDepth 20000 in
theorem gX8_cracks_X8_keyAt : GoodIn wsX8_cracks (wsV RX8 159 RX8 yX8_keyAt wsX8_keyAt) := goodIn_app (goodIn_of _ (by decide +kernel)) ggX8_cracks_X8_keyAt
set_option maxRecDepth 20000 in
theorem ggX8_cracks_X8_puts : GoodIn wsX8_cracks wsX8_puts := goodIn_r _ [23, 2, 27, 28, 29, 30, 31, 32, 33, 34, 35, 36, 37, 38, 39, 40, 41, 42, 43, 44, 45, 46] (by decide +kernel) (by decide +kernel)
set_option maxRecDepth 20000 in
theorem gX8_cracks_X8_puts : GoodIn wsX8_cracks (wsV RX8 162 RX8 yX8_puts wsX8_puts) := goodIn_app (goodIn_of _ (by decide +kernel)) ggX8_cracks_X8_puts
set_option maxRecDepth 20000 in
theorem ggX8_cracks_X8_logOf : GoodIn wsX8_cracks wsX8_logOf := goodIn_r _ [26] (by decide +kernel) (by decide +kernel)
set_option maxRecDepth 20000 in
theorem gX8_cracks_X8_logOf : GoodIn wsX8_cracks (va_wsS RX8 166 yX8_logOf wsX8_logOf) := goodIn_app (goodIn_of _ (by decide +kernel)) ggX8_cracks_X8_logOf
theorem dX8_cracks_0 : decode cX8_cracks 0 = .ok (.aload_n 0, 1) := by decide +kernel
theorem dX8_cracks_1 : decode cX8_cracks 1 = .ok (.iload_n 1, 1) := by decide +kernel
theorem dX8_cracks_2 : decode cX8_cracks 2 = .ok (.invokevirtual 153, 3) := by decide +kernel
theorem dX8_cracks_5 : decode cX8_cracks 5 = .ok (.istore_n 2, 1) := by decide +kernel
theorem dX8_cracks_6 : decode cX8_cracks 6 = .ok (.aload_n 0, 1) := by decide +kernel
theorem dX8_cracks_7 : decode cX8_cracks 7 = .ok (.iload_n 2, 1) := by decide +kernel
theorem dX8_cracks_8 : decode cX8_cracks 8 = .ok (.iconst 0, 1) := by decide +kernel
theorem dX8_cracks_9 : decode cX8_cracks 9 = .ok (.invokevirtual 150, 3) := by decide +kernel
theorem dX8_cracks_12 : decode cX8_cracks 12 = .ok (.iload_n 1, 1) := by decide +kernel
theorem dX8_cracks_13 : decode cX8_cracks 13 = .ok (.if_icmp .ne 5, 3) := by decide +kernel
theorem dX8_cracks_16 : decode cX8_cracks 16 = .ok (.iconst 0, 1) := by decide +kernel
theorem dX8_cracks_17 : decode cX8_cracks 17 = .ok (.ireturn, 1) := by decide +kernel
theorem dX8_cracks_18 : decode cX8_cracks 18 = .ok (.aload_n 0, 1) := by decide +kernel
theorem dX8_cracks_19 : decode cX8_cracks 19 = .ok (.iload_n 2, 1) := by decide +kernel
theorem dX8_cracks_20 : decode cX8_cracks 20 = .ok (.invokevirtual 156, 3) := by decide +kernel
theorem dX8_cracks_23 : decode cX8_cracks 23 = .ok (.istore_n 3, 1) := by decide +kernel
theorem dX8_cracks_24 : decode cX8_cracks 24 = .ok (.aload_n 0, 1) := by decide +kernel
theorem dX8_cracks_25 : decode cX8_cracks 25 = .ok (.iload_n 2, 1) := by decide +kernel
theorem dX8_cracks_26 : decode cX8_cracks 26 = .ok (.iconst 1, 1) := by decide +kernel
theorem dX8_cracks_27 : decode cX8_cracks 27 = .ok (.invokevirtual 150, 3) := by decide +kernel
theorem dX8_cracks_30 : decode cX8_cracks 30 = .ok (.istore 4, 2) := by decide +kernel
theorem dX8_cracks_32 : decode cX8_cracks 32 = .ok (.iconst 0, 1) := by decide +kernel
theorem dX8_cracks_33 : decode cX8_cracks 33 = .ok (.istore 5, 2) := by decide +kernel
theorem dX8_cracks_35 : decode cX8_cracks 35 = .ok (.iconst 0, 1) := by decide +kernel
theorem dX8_cracks_36 : decode cX8_cracks 36 = .ok (.istore 6, 2) := by decide +kernel
theorem dX8_cracks_38 : decode cX8_cracks 38 = .ok (.iload 6, 2) := by decide +kernel
theorem dX8_cracks_40 : decode cX8_cracks 40 = .ok (.iload 4, 2) := by decide +kernel
theorem dX8_cracks_42 : decode cX8_cracks 42 = .ok (.if_icmp .ge 31, 3) := by decide +kernel
theorem dX8_cracks_45 : decode cX8_cracks 45 = .ok (.iload 5, 2) := by decide +kernel
theorem dX8_cracks_47 : decode cX8_cracks 47 = .ok (.aload_n 0, 1) := by decide +kernel
theorem dX8_cracks_48 : decode cX8_cracks 48 = .ok (.iload_n 3, 1) := by decide +kernel
theorem dX8_cracks_49 : decode cX8_cracks 49 = .ok (.iload 6, 2) := by decide +kernel
theorem dX8_cracks_51 : decode cX8_cracks 51 = .ok (.iadd, 1) := by decide +kernel
theorem dX8_cracks_52 : decode cX8_cracks 52 = .ok (.invokevirtual 159, 3) := by decide +kernel
theorem dX8_cracks_55 : decode cX8_cracks 55 = .ok (.iload_n 1, 1) := by decide +kernel
theorem dX8_cracks_56 : decode cX8_cracks 56 = .ok (.if_icmp .ge 7, 3) := by decide +kernel
theorem dX8_cracks_59 : decode cX8_cracks 59 = .ok (.iconst 1, 1) := by decide +kernel
theorem dX8_cracks_60 : decode cX8_cracks 60 = .ok (.goto 4, 3) := by decide +kernel
theorem dX8_cracks_63 : decode cX8_cracks 63 = .ok (.iconst 0, 1) := by decide +kernel
theorem dX8_cracks_64 : decode cX8_cracks 64 = .ok (.iadd, 1) := by decide +kernel
theorem dX8_cracks_65 : decode cX8_cracks 65 = .ok (.istore 5, 2) := by decide +kernel
theorem dX8_cracks_67 : decode cX8_cracks 67 = .ok (.iinc 6 1, 3) := by decide +kernel
theorem dX8_cracks_70 : decode cX8_cracks 70 = .ok (.goto (-32), 3) := by decide +kernel
theorem dX8_cracks_73 : decode cX8_cracks 73 = .ok (.iconst 0, 1) := by decide +kernel
theorem dX8_cracks_74 : decode cX8_cracks 74 = .ok (.istore 6, 2) := by decide +kernel
theorem dX8_cracks_76 : decode cX8_cracks 76 = .ok (.iload 5, 2) := by decide +kernel
theorem dX8_cracks_78 : decode cX8_cracks 78 = .ok (.istore 7, 2) := by decide +kernel
theorem dX8_cracks_80 : decode cX8_cracks 80 = .ok (.iconst 0, 1) := by decide +kernel
theorem dX8_cracks_81 : decode cX8_cracks 81 = .ok (.istore 8, 2) := by decide +kernel
theorem dX8_cracks_83 : decode cX8_cracks 83 = .ok (.iload 8, 2) := by decide +kernel
theorem dX8_cracks_85 : decode cX8_cracks 85 = .ok (.iload 4, 2) := by decide +kernel
theorem dX8_cracks_87 : decode cX8_cracks 87 = .ok (.if_icmp .ge 88, 3) := by decide +kernel
theorem dX8_cracks_90 : decode cX8_cracks 90 = .ok (.aload_n 0, 1) := by decide +kernel
theorem dX8_cracks_91 : decode cX8_cracks 91 = .ok (.iload_n 3, 1) := by decide +kernel
theorem dX8_cracks_92 : decode cX8_cracks 92 = .ok (.iload 8, 2) := by decide +kernel
theorem dX8_cracks_94 : decode cX8_cracks 94 = .ok (.iadd, 1) := by decide +kernel
theorem dX8_cracks_95 : decode cX8_cracks 95 = .ok (.invokevirtual 159, 3) := by decide +kernel
theorem dX8_cracks_98 : decode cX8_cracks 98 = .ok (.iload_n 1, 1) := by decide +kernel
theorem dX8_cracks_99 : decode cX8_cracks 99 = .ok (.if_icmp .ge 7, 3) := by decide +kernel
theorem dX8_cracks_102 : decode cX8_cracks 102 = .ok (.iconst 1, 1) := by decide +kernel
theorem dX8_cracks_103 : decode cX8_cracks 103 = .ok (.goto 4, 3) := by decide +kernel
theorem dX8_cracks_106 : decode cX8_cracks 106 = .ok (.iconst 0, 1) := by decide +kernel
theorem dX8_cracks_107 : decode cX8_cracks 107 = .ok (.istore 9, 2) := by decide +kernel
theorem dX8_cracks_109 : decode cX8_cracks 109 = .ok (.aload_n 0, 1) := by decide +kernel
theorem dX8_cracks_110 : decode cX8_cracks 110 = .ok (.getfield 29, 3) := by decide +kernel
theorem dX8_cracks_113 : decode cX8_cracks 113 = .ok (.iload 9, 2) := by decide +kernel
theorem dX8_cracks_115 : decode cX8_cracks 115 = .ok (.ifCond .eq 8, 3) := by decide +kernel
theorem dX8_cracks_118 : decode cX8_cracks 118 = .ok (.iload 6, 2) := by decide +kernel
theorem dX8_cracks_120 : decode cX8_cracks 120 = .ok (.goto 5, 3) := by decide +kernel
theorem dX8_cracks_123 : decode cX8_cracks 123 = .ok (.iload 7, 2) := by decide +kernel
theorem dX8_cracks_125 : decode cX8_cracks 125 = .ok (.aload_n 0, 1) := by decide +kernel
theorem dX8_cracks_126 : decode cX8_cracks 126 = .ok (.getfield 7, 3) := by decide +kernel
theorem dX8_cracks_129 : decode cX8_cracks 129 = .ok (.sipush 380, 3) := by decide +kernel
theorem dX8_cracks_132 : decode cX8_cracks 132 = .ok (.iload_n 3, 1) := by decide +kernel
theorem dX8_cracks_133 : decode cX8_cracks 133 = .ok (.iadd, 1) := by decide +kernel
theorem dX8_cracks_134 : decode cX8_cracks 134 = .ok (.iload 8, 2) := by decide +kernel
theorem dX8_cracks_136 : decode cX8_cracks 136 = .ok (.iadd, 1) := by decide +kernel
theorem dX8_cracks_137 : decode cX8_cracks 137 = .ok (.iaload, 1) := by decide +kernel
theorem dX8_cracks_138 : decode cX8_cracks 138 = .ok (.iastore, 1) := by decide +kernel
theorem dX8_cracks_139 : decode cX8_cracks 139 = .ok (.iload 6, 2) := by decide +kernel
theorem dX8_cracks_141 : decode cX8_cracks 141 = .ok (.iload 9, 2) := by decide +kernel
theorem dX8_cracks_143 : decode cX8_cracks 143 = .ok (.ifCond .eq 7, 3) := by decide +kernel
theorem dX8_cracks_146 : decode cX8_cracks 146 = .ok (.iconst 1, 1) := by decide +kernel
theorem dX8_cracks_147 : decode cX8_cracks 147 = .ok (.goto 4, 3) := by decide +kernel
theorem dX8_cracks_150 : decode cX8_cracks 150 = .ok (.iconst 0, 1) := by decide +kernel
theorem dX8_cracks_151 : decode cX8_cracks 151 = .ok (.iadd, 1) := by decide +kernel
theorem dX8_cracks_152 : decode cX8_cracks 152 = .ok (.istore 6, 2) := by decide +kernel
theorem dX8_cracks_154 : decode cX8_cracks 154 = .ok (.iload 7, 2) := by decide +kernel
theorem dX8_cracks_156 : decode cX8_cracks 156 = .ok (.iload 9, 2) := by decide +kernel
theorem dX8_cracks_158 : decode cX8_cracks 158 = .ok (.ifCond .eq 7, 3) := by decide +kernel
theorem dX8_cracks_161 : decode cX8_cracks 161 = .ok (.iconst 0, 1) := by decide +kernel
theorem dX8_cracks_162 : decode cX8_cracks 162 = .ok (.goto 4, 3) := by decide +kernel
theorem dX8_cracks_165 : decode cX8_cracks 165 = .ok (.iconst 1, 1) := by decide +kernel
theorem dX8_cracks_166 : decode cX8_cracks 166 = .ok (.iadd, 1) := by decide +kernel
theorem dX8_cracks_167 : decode cX8_cracks 167 = .ok (.istore 7, 2) := by decide +kernel
theorem dX8_cracks_169 : decode cX8_cracks 169 = .ok (.iinc 8 1, 3) := by decide +kernel
theorem dX8_cracks_172 : decode cX8_cracks 172 = .ok (.goto (-89), 3) := by decide +kernel
theorem dX8_cracks_175 : decode cX8_cracks 175 = .ok (.iconst 0, 1) := by decide +kernel
theorem dX8_cracks_176 : decode cX8_cracks 176 = .ok (.istore 8, 2) := by decide +kernel
theorem dX8_cracks_178 : decode cX8_cracks 178 = .ok (.iload 8, 2) := by decide +kernel
theorem dX8_cracks_180 : decode cX8_cracks 180 = .ok (.iload 4, 2) := by decide +kernel
theorem dX8_cracks_182 : decode cX8_cracks 182 = .ok (.if_icmp .ge 29, 3) := by decide +kernel
theorem dX8_cracks_185 : decode cX8_cracks 185 = .ok (.aload_n 0, 1) := by decide +kernel
theorem dX8_cracks_186 : decode cX8_cracks 186 = .ok (.getfield 7, 3) := by decide +kernel
theorem dX8_cracks_189 : decode cX8_cracks 189 = .ok (.sipush 380, 3) := by decide +kernel
theorem dX8_cracks_192 : decode cX8_cracks 192 = .ok (.iload_n 3, 1) := by decide +kernel
theorem dX8_cracks_193 : decode cX8_cracks 193 = .ok (.iadd, 1) := by decide +kernel
theorem dX8_cracks_194 : decode cX8_cracks 194 = .ok (.iload 8, 2) := by decide +kernel
theorem dX8_cracks_196 : decode cX8_cracks 196 = .ok (.iadd, 1) := by decide +kernel
theorem dX8_cracks_197 : decode cX8_cracks 197 = .ok (.aload_n 0, 1) := by decide +kernel
theorem dX8_cracks_198 : decode cX8_cracks 198 = .ok (.getfield 29, 3) := by decide +kernel
theorem dX8_cracks_201 : decode cX8_cracks 201 = .ok (.iload 8, 2) := by decide +kernel
theorem dX8_cracks_203 : decode cX8_cracks 203 = .ok (.iaload, 1) := by decide +kernel
theorem dX8_cracks_204 : decode cX8_cracks 204 = .ok (.iastore, 1) := by decide +kernel
theorem dX8_cracks_205 : decode cX8_cracks 205 = .ok (.iinc 8 1, 3) := by decide +kernel
theorem dX8_cracks_208 : decode cX8_cracks 208 = .ok (.goto (-30), 3) := by decide +kernel
theorem dX8_cracks_211 : decode cX8_cracks 211 = .ok (.sipush 540, 3) := by decide +kernel
theorem dX8_cracks_214 : decode cX8_cracks 214 = .ok (.iconst 4, 1) := by decide +kernel
theorem dX8_cracks_215 : decode cX8_cracks 215 = .ok (.aload_n 0, 1) := by decide +kernel
theorem dX8_cracks_216 : decode cX8_cracks 216 = .ok (.getfield 7, 3) := by decide +kernel
theorem dX8_cracks_219 : decode cX8_cracks 219 = .ok (.iconst 3, 1) := by decide +kernel
theorem dX8_cracks_220 : decode cX8_cracks 220 = .ok (.iaload, 1) := by decide +kernel
theorem dX8_cracks_221 : decode cX8_cracks 221 = .ok (.imul, 1) := by decide +kernel
theorem dX8_cracks_222 : decode cX8_cracks 222 = .ok (.iadd, 1) := by decide +kernel
theorem dX8_cracks_223 : decode cX8_cracks 223 = .ok (.iconst 1, 1) := by decide +kernel
theorem dX8_cracks_224 : decode cX8_cracks 224 = .ok (.isub, 1) := by decide +kernel
theorem dX8_cracks_225 : decode cX8_cracks 225 = .ok (.istore 8, 2) := by decide +kernel
theorem dX8_cracks_227 : decode cX8_cracks 227 = .ok (.iload 8, 2) := by decide +kernel
theorem dX8_cracks_229 : decode cX8_cracks 229 = .ok (.sipush 540, 3) := by decide +kernel
theorem dX8_cracks_232 : decode cX8_cracks 232 = .ok (.iconst 4, 1) := by decide +kernel
theorem dX8_cracks_233 : decode cX8_cracks 233 = .ok (.iload_n 2, 1) := by decide +kernel
theorem dX8_cracks_234 : decode cX8_cracks 234 = .ok (.imul, 1) := by decide +kernel
theorem dX8_cracks_235 : decode cX8_cracks 235 = .ok (.iadd, 1) := by decide +kernel
theorem dX8_cracks_236 : decode cX8_cracks 236 = .ok (.if_icmp .lt 25, 3) := by decide +kernel
theorem dX8_cracks_239 : decode cX8_cracks 239 = .ok (.aload_n 0, 1) := by decide +kernel
theorem dX8_cracks_240 : decode cX8_cracks 240 = .ok (.getfield 7, 3) := by decide +kernel
theorem dX8_cracks_243 : decode cX8_cracks 243 = .ok (.iload 8, 2) := by decide +kernel
theorem dX8_cracks_245 : decode cX8_cracks 245 = .ok (.iconst 4, 1) := by decide +kernel
theorem dX8_cracks_246 : decode cX8_cracks 246 = .ok (.iadd, 1) := by decide +kernel
theorem dX8_cracks_247 : decode cX8_cracks 247 = .ok (.aload_n 0, 1) := by decide +kernel
theorem dX8_cracks_248 : decode cX8_cracks 248 = .ok (.getfield 7, 3) := by decide +kernel
theorem dX8_cracks_251 : decode cX8_cracks 251 = .ok (.iload 8, 2) := by decide +kernel
theorem dX8_cracks_253 : decode cX8_cracks 253 = .ok (.iaload, 1) := by decide +kernel
theorem dX8_cracks_254 : decode cX8_cracks 254 = .ok (.iastore, 1) := by decide +kernel
theorem dX8_cracks_255 : decode cX8_cracks 255 = .ok (.iinc 8 (-1), 3) := by decide +kernel
theorem dX8_cracks_258 : decode cX8_cracks 258 = .ok (.goto (-31), 3) := by decide +kernel
theorem dX8_cracks_261 : decode cX8_cracks 261 = .ok (.aload_n 0, 1) := by decide +kernel
theorem dX8_cracks_262 : decode cX8_cracks 262 = .ok (.getfield 7, 3) := by decide +kernel
theorem dX8_cracks_265 : decode cX8_cracks 265 = .ok (.iconst 3, 1) := by decide +kernel
theorem dX8_cracks_266 : decode cX8_cracks 266 = .ok (.dup2, 1) := by decide +kernel
theorem dX8_cracks_267 : decode cX8_cracks 267 = .ok (.iaload, 1) := by decide +kernel
theorem dX8_cracks_268 : decode cX8_cracks 268 = .ok (.iconst 1, 1) := by decide +kernel
theorem dX8_cracks_269 : decode cX8_cracks 269 = .ok (.iadd, 1) := by decide +kernel
theorem dX8_cracks_270 : decode cX8_cracks 270 = .ok (.iastore, 1) := by decide +kernel
theorem dX8_cracks_271 : decode cX8_cracks 271 = .ok (.aload_n 0, 1) := by decide +kernel
theorem dX8_cracks_272 : decode cX8_cracks 272 = .ok (.iload_n 2, 1) := by decide +kernel
theorem dX8_cracks_273 : decode cX8_cracks 273 = .ok (.iconst 1, 1) := by decide +kernel
theorem dX8_cracks_274 : decode cX8_cracks 274 = .ok (.iload 5, 2) := by decide +kernel
theorem dX8_cracks_276 : decode cX8_cracks 276 = .ok (.invokevirtual 162, 3) := by decide +kernel
theorem dX8_cracks_279 : decode cX8_cracks 279 = .ok (.aload_n 0, 1) := by decide +kernel
theorem dX8_cracks_280 : decode cX8_cracks 280 = .ok (.iload_n 2, 1) := by decide +kernel
theorem dX8_cracks_281 : decode cX8_cracks 281 = .ok (.iconst 2, 1) := by decide +kernel
theorem dX8_cracks_282 : decode cX8_cracks 282 = .ok (.aload_n 0, 1) := by decide +kernel
theorem dX8_cracks_283 : decode cX8_cracks 283 = .ok (.iload_n 2, 1) := by decide +kernel
theorem dX8_cracks_284 : decode cX8_cracks 284 = .ok (.iconst 2, 1) := by decide +kernel
theorem dX8_cracks_285 : decode cX8_cracks 285 = .ok (.invokevirtual 150, 3) := by decide +kernel
theorem dX8_cracks_288 : decode cX8_cracks 288 = .ok (.iconst 2, 1) := by decide +kernel
theorem dX8_cracks_289 : decode cX8_cracks 289 = .ok (.idiv, 1) := by decide +kernel
theorem dX8_cracks_290 : decode cX8_cracks 290 = .ok (.invokevirtual 162, 3) := by decide +kernel
theorem dX8_cracks_293 : decode cX8_cracks 293 = .ok (.aload_n 0, 1) := by decide +kernel
theorem dX8_cracks_294 : decode cX8_cracks 294 = .ok (.iload_n 2, 1) := by decide +kernel
theorem dX8_cracks_295 : decode cX8_cracks 295 = .ok (.iconst 1, 1) := by decide +kernel
theorem dX8_cracks_296 : decode cX8_cracks 296 = .ok (.iadd, 1) := by decide +kernel
theorem dX8_cracks_297 : decode cX8_cracks 297 = .ok (.iconst 0, 1) := by decide +kernel
theorem dX8_cracks_298 : decode cX8_cracks 298 = .ok (.iload_n 1, 1) := by decide +kernel
theorem dX8_cracks_299 : decode cX8_cracks 299 = .ok (.invokevirtual 162, 3) := by decide +kernel
theorem dX8_cracks_302 : decode cX8_cracks 302 = .ok (.aload_n 0, 1) := by decide +kernel
theorem dX8_cracks_303 : decode cX8_cracks 303 = .ok (.iload_n 2, 1) := by decide +kernel
theorem dX8_cracks_304 : decode cX8_cracks 304 = .ok (.iconst 1, 1) := by decide +kernel
theorem dX8_cracks_305 : decode cX8_cracks 305 = .ok (.iadd, 1) := by decide +kernel
theorem dX8_cracks_306 : decode cX8_cracks 306 = .ok (.iconst 1, 1) := by decide +kernel
theorem dX8_cracks_307 : decode cX8_cracks 307 = .ok (.iload 4, 2) := by decide +kernel
theorem dX8_cracks_309 : decode cX8_cracks 309 = .ok (.iload 5, 2) := by decide +kernel
theorem dX8_cracks_311 : decode cX8_cracks 311 = .ok (.isub, 1) := by decide +kernel
theorem dX8_cracks_312 : decode cX8_cracks 312 = .ok (.invokevirtual 162, 3) := by decide +kernel
theorem dX8_cracks_315 : decode cX8_cracks 315 = .ok (.aload_n 0, 1) := by decide +kernel
theorem dX8_cracks_316 : decode cX8_cracks 316 = .ok (.iload_n 2, 1) := by decide +kernel
theorem dX8_cracks_317 : decode cX8_cracks 317 = .ok (.iconst 1, 1) := by decide +kernel
theorem dX8_cracks_318 : decode cX8_cracks 318 = .ok (.iadd, 1) := by decide +kernel
theorem dX8_cracks_319 : decode cX8_cracks 319 = .ok (.iconst 2, 1) := by decide +kernel
theorem dX8_cracks_320 : decode cX8_cracks 320 = .ok (.aload_n 0, 1) := by decide +kernel
theorem dX8_cracks_321 : decode cX8_cracks 321 = .ok (.iload_n 2, 1) := by decide +kernel
theorem dX8_cracks_322 : decode cX8_cracks 322 = .ok (.iconst 2, 1) := by decide +kernel
theorem dX8_cracks_323 : decode cX8_cracks 323 = .ok (.invokevirtual 150, 3) := by decide +kernel
theorem dX8_cracks_326 : decode cX8_cracks 326 = .ok (.invokevirtual 162, 3) := by decide +kernel
theorem dX8_cracks_329 : decode cX8_cracks 329 = .ok (.aload_n 0, 1) := by decide +kernel
theorem dX8_cracks_330 : decode cX8_cracks 330 = .ok (.iload_n 2, 1) := by decide +kernel
theorem dX8_cracks_331 : decode cX8_cracks 331 = .ok (.iconst 3, 1) := by decide +kernel
theorem dX8_cracks_332 : decode cX8_cracks 332 = .ok (.invokevirtual 150, 3) := by decide +kernel
theorem dX8_cracks_335 : decode cX8_cracks 335 = .ok (.iconst 1, 1) := by decide +kernel
theorem dX8_cracks_336 : decode cX8_cracks 336 = .ok (.if_icmp .ne 13, 3) := by decide +kernel
theorem dX8_cracks_339 : decode cX8_cracks 339 = .ok (.iload 4, 2) := by decide +kernel
theorem dX8_cracks_341 : decode cX8_cracks 341 = .ok (.iconst 1, 1) := by decide +kernel
theorem dX8_cracks_342 : decode cX8_cracks 342 = .ok (.iadd, 1) := by decide +kernel
theorem dX8_cracks_343 : decode cX8_cracks 343 = .ok (.invokestatic 166, 3) := by decide +kernel
theorem dX8_cracks_346 : decode cX8_cracks 346 = .ok (.goto 5, 3) := by decide +kernel
theorem dX8_cracks_349 : decode cX8_cracks 349 = .ok (.iload 4, 2) := by decide +kernel
theorem dX8_cracks_351 : decode cX8_cracks 351 = .ok (.ireturn, 1) := by decide +kernel
theorem dX8_isAhead_0 : decode cX8_isAhead 0 = .ok (.aload_n 0, 1) := by decide +kernel
theorem dX8_isAhead_1 : decode cX8_isAhead 1 = .ok (.getfield 7, 3) := by decide +kernel
theorem dX8_isAhead_4 : decode cX8_isAhead 4 = .ok (.bipush 20, 2) := by decide +kernel
theorem dX8_isAhead_6 : decode cX8_isAhead 6 = .ok (.iload_n 1, 1) := by decide +kernel
theorem dX8_isAhead_7 : decode cX8_isAhead 7 = .ok (.iadd, 1) := by decide +kernel
theorem dX8_isAhead_8 : decode cX8_isAhead 8 = .ok (.iaload, 1) := by decide +kernel
theorem dX8_isAhead_9 : decode cX8_isAhead 9 = .ok (.aload_n 0, 1) := by decide +kernel
theorem dX8_isAhead_10 : decode cX8_isAhead 10 = .ok (.getfield 7, 3) := by decide +kernel
theorem dX8_isAhead_13 : decode cX8_isAhead 13 = .ok (.bipush 20, 2) := by decide +kernel
theorem dX8_isAhead_15 : decode cX8_isAhead 15 = .ok (.iload_n 2, 1) := by decide +kernel
theorem dX8_isAhead_16 : decode cX8_isAhead 16 = .ok (.iadd, 1) := by decide +kernel
theorem dX8_isAhead_17 : decode cX8_isAhead 17 = .ok (.iaload, 1) := by decide +kernel
theorem dX8_isAhead_18 : decode cX8_isAhead 18 = .ok (.if_icmp .ne 16, 3) := by decide +kernel
theorem dX8_isAhead_21 : decode cX8_isAhead 21 = .ok (.iload_n 1, 1) := by decide +kernel
theorem dX8_isAhead_22 : decode cX8_isAhead 22 = .ok (.iload_n 2, 1) := by decide +kernel
theorem dX8_isAhead_23 : decode cX8_isAhead 23 = .ok (.if_icmp .ge 7, 3) := by decide +kernel
theorem dX8_isAhead_26 : decode cX8_isAhead 26 = .ok (.iconst 1, 1) := by decide +kernel
theorem dX8_isAhead_27 : decode cX8_isAhead 27 = .ok (.goto 33, 3) := by decide +kernel
theorem dX8_isAhead_30 : decode cX8_isAhead 30 = .ok (.iconst 0, 1) := by decide +kernel
theorem dX8_isAhead_31 : decode cX8_isAhead 31 = .ok (.goto 29, 3) := by decide +kernel
theorem dX8_isAhead_34 : decode cX8_isAhead 34 = .ok (.aload_n 0, 1) := by decide +kernel
theorem dX8_isAhead_35 : decode cX8_isAhead 35 = .ok (.getfield 7, 3) := by decide +kernel
theorem dX8_isAhead_38 : decode cX8_isAhead 38 = .ok (.bipush 20, 2) := by decide +kernel
theorem dX8_isAhead_40 : decode cX8_isAhead 40 = .ok (.iload_n 1, 1) := by decide +kernel
theorem dX8_isAhead_41 : decode cX8_isAhead 41 = .ok (.iadd, 1) := by decide +kernel
theorem dX8_isAhead_42 : decode cX8_isAhead 42 = .ok (.iaload, 1) := by decide +kernel
theorem dX8_isAhead_43 : decode cX8_isAhead 43 = .ok (.aload_n 0, 1) := by decide +kernel
theorem dX8_isAhead_44 : decode cX8_isAhead 44 = .ok (.getfield 7, 3) := by decide +kernel
theorem dX8_isAhead_47 : decode cX8_isAhead 47 = .ok (.bipush 20, 2) := by decide +kernel
theorem dX8_isAhead_49 : decode cX8_isAhead 49 = .ok (.iload_n 2, 1) := by decide +kernel
theorem dX8_isAhead_50 : decode cX8_isAhead 50 = .ok (.iadd, 1) := by decide +kernel
theorem dX8_isAhead_51 : decode cX8_isAhead 51 = .ok (.iaload, 1) := by decide +kernel
theorem dX8_isAhead_52 : decode cX8_isAhead 52 = .ok (.if_icmp .ge 7, 3) := by decide +kernel
theorem dX8_isAhead_55 : decode cX8_isAhead 55 = .ok (.iconst 1, 1) := by decide +kernel
theorem dX8_isAhead_56 : decode cX8_isAhead 56 = .ok (.goto 4, 3) := by decide +kernel
theorem dX8_isAhead_59 : decode cX8_isAhead 59 = .ok (.iconst 0, 1) := by decide +kernel
theorem dX8_isAhead_60 : decode cX8_isAhead 60 = .ok (.ireturn, 1) := by decide +kernel
set_option maxRecDepth 20000 in
theorem ggX8_sorts_X8_firstPlace : GoodIn wsX8_sorts wsX8_firstPlace := goodIn_r _ [7, 8, 9, 10, 6, 11, 2, 20, 21, 22, 23, 24, 25, 26, 27, 28, 29, 30, 31, 32, 33, 34, 35, 36, 37, 38, 39] (by decide +kernel) (by decide +kernel)
set_option maxRecDepth 20000 in
theorem gX8_sorts_X8_firstPlace : GoodIn wsX8_sorts (wsV RX8 156 RX8 yX8_firstPlace wsX8_firstPlace) := goodIn_app (goodIn_of _ (by decide +kernel)) ggX8_sorts_X8_firstPlace
set_option maxRecDepth 20000 in
theorem ggX8_sorts_X8_of : GoodIn wsX8_sorts wsX8_of := goodIn_r _ [11, 2, 20, 21, 22, 23, 24, 25, 26, 27, 28, 29, 30, 31, 32, 33, 34, 35, 36, 37, 38, 39] (by decide +kernel) (by decide +kernel)
set_option maxRecDepth 20000 in
theorem gX8_sorts_X8_of : GoodIn wsX8_sorts (wsV RX8 150 RX8 yX8_of wsX8_of) := goodIn_app (goodIn_of _ (by decide +kernel)) ggX8_sorts_X8_of
set_option maxRecDepth 20000 in
theorem ggX8_sorts_X8_isAhead : GoodIn wsX8_sorts wsX8_isAhead := goodIn_r _ [15, 2, 20, 21, 22, 23, 24, 25, 26, 27, 28, 29, 30, 31, 32, 33, 34, 35, 36, 37, 38, 39] (by decide +kernel) (by decide +kernel)
set_option maxRecDepth 20000 in
theorem gX8_sorts_X8_isAhead : GoodIn wsX8_sorts (wsV RX8 169 RX8 yX8_isAhead wsX8_isAhead) := goodIn_app (goodIn_of _ (by decide +kernel)) ggX8_sorts_X8_isAhead
set_option maxRecDepth 20000 in
theorem ggX8_sorts_X8_puts : GoodIn wsX8_sorts wsX8_puts := goodIn_r _ [19, 2, 20, 21, 22, 23, 24, 25, 26, 27, 28, 29, 30, 31, 32, 33, 34, 35, 36, 37, 38, 39] (by decide +kernel) (by decide +kernel)
set_option maxRecDepth 20000 in
theorem gX8_sorts_X8_puts : GoodIn wsX8_sorts (wsV RX8 162 RX8 yX8_puts wsX8_puts) := goodIn_app (goodIn_of _ (by decide +kernel)) ggX8_sorts_X8_puts
theorem dX8_sorts_0 : decode cX8_sorts 0 = .ok (.aload_n 0, 1) := by decide +kernel
theorem dX8_sorts_1 : decode cX8_sorts 1 = .ok (.iload_n 1, 1) := by decide +kernel
theorem dX8_sorts_2 : decode cX8_sorts 2 = .ok (.invokevirtual 156, 3) := by decide +kernel
theorem dX8_sorts_5 : decode cX8_sorts 5 = .ok (.istore_n 2, 1) := by decide +kernel
theorem dX8_sorts_6 : decode cX8_sorts 6 = .ok (.aload_n 0, 1) := by decide +kernel
theorem dX8_sorts_7 : decode cX8_sorts 7 = .ok (.iload_n 1, 1) := by decide +kernel
theorem dX8_sorts_8 : decode cX8_sorts 8 = .ok (.iconst 1, 1) := by decide +kernel
theorem dX8_sorts_9 : decode cX8_sorts 9 = .ok (.invokevirtual 150, 3) := by decide +kernel
theorem dX8_sorts_12 : decode cX8_sorts 12 = .ok (.istore_n 3, 1) := by decide +kernel
theorem dX8_sorts_13 : decode cX8_sorts 13 = .ok (.iconst 0, 1) := by decide +kernel
theorem dX8_sorts_14 : decode cX8_sorts 14 = .ok (.istore 4, 2) := by decide +kernel
theorem dX8_sorts_16 : decode cX8_sorts 16 = .ok (.iload 4, 2) := by decide +kernel
theorem dX8_sorts_18 : decode cX8_sorts 18 = .ok (.iload_n 3, 1) := by decide +kernel
theorem dX8_sorts_19 : decode cX8_sorts 19 = .ok (.if_icmp .ge 29, 3) := by decide +kernel
theorem dX8_sorts_22 : decode cX8_sorts 22 = .ok (.aload_n 0, 1) := by decide +kernel
theorem dX8_sorts_23 : decode cX8_sorts 23 = .ok (.getfield 29, 3) := by decide +kernel
theorem dX8_sorts_26 : decode cX8_sorts 26 = .ok (.iload 4, 2) := by decide +kernel
theorem dX8_sorts_28 : decode cX8_sorts 28 = .ok (.aload_n 0, 1) := by decide +kernel
theorem dX8_sorts_29 : decode cX8_sorts 29 = .ok (.getfield 7, 3) := by decide +kernel
theorem dX8_sorts_32 : decode cX8_sorts 32 = .ok (.sipush 380, 3) := by decide +kernel
theorem dX8_sorts_35 : decode cX8_sorts 35 = .ok (.iload_n 2, 1) := by decide +kernel
theorem dX8_sorts_36 : decode cX8_sorts 36 = .ok (.iadd, 1) := by decide +kernel
theorem dX8_sorts_37 : decode cX8_sorts 37 = .ok (.iload 4, 2) := by decide +kernel
theorem dX8_sorts_39 : decode cX8_sorts 39 = .ok (.iadd, 1) := by decide +kernel
theorem dX8_sorts_40 : decode cX8_sorts 40 = .ok (.iaload, 1) := by decide +kernel
theorem dX8_sorts_41 : decode cX8_sorts 41 = .ok (.iastore, 1) := by decide +kernel
theorem dX8_sorts_42 : decode cX8_sorts 42 = .ok (.iinc 4 1, 3) := by decide +kernel
theorem dX8_sorts_45 : decode cX8_sorts 45 = .ok (.goto (-29), 3) := by decide +kernel
theorem dX8_sorts_48 : decode cX8_sorts 48 = .ok (.iconst 1, 1) := by decide +kernel
theorem dX8_sorts_49 : decode cX8_sorts 49 = .ok (.istore 4, 2) := by decide +kernel
theorem dX8_sorts_51 : decode cX8_sorts 51 = .ok (.iload 4, 2) := by decide +kernel
theorem dX8_sorts_53 : decode cX8_sorts 53 = .ok (.iload_n 3, 1) := by decide +kernel
theorem dX8_sorts_54 : decode cX8_sorts 54 = .ok (.if_icmp .ge 101, 3) := by decide +kernel
theorem dX8_sorts_57 : decode cX8_sorts 57 = .ok (.aload_n 0, 1) := by decide +kernel
theorem dX8_sorts_58 : decode cX8_sorts 58 = .ok (.getfield 7, 3) := by decide +kernel
theorem dX8_sorts_61 : decode cX8_sorts 61 = .ok (.sipush 380, 3) := by decide +kernel
theorem dX8_sorts_64 : decode cX8_sorts 64 = .ok (.iload_n 2, 1) := by decide +kernel
theorem dX8_sorts_65 : decode cX8_sorts 65 = .ok (.iadd, 1) := by decide +kernel
theorem dX8_sorts_66 : decode cX8_sorts 66 = .ok (.iload 4, 2) := by decide +kernel
theorem dX8_sorts_68 : decode cX8_sorts 68 = .ok (.iadd, 1) := by decide +kernel
theorem dX8_sorts_69 : decode cX8_sorts 69 = .ok (.iaload, 1) := by decide +kernel
theorem dX8_sorts_70 : decode cX8_sorts 70 = .ok (.istore 5, 2) := by decide +kernel
theorem dX8_sorts_72 : decode cX8_sorts 72 = .ok (.iload_n 2, 1) := by decide +kernel
theorem dX8_sorts_73 : decode cX8_sorts 73 = .ok (.iload 4, 2) := by decide +kernel
theorem dX8_sorts_75 : decode cX8_sorts 75 = .ok (.iadd, 1) := by decide +kernel
theorem dX8_sorts_76 : decode cX8_sorts 76 = .ok (.istore 6, 2) := by decide +kernel
theorem dX8_sorts_78 : decode cX8_sorts 78 = .ok (.iload 6, 2) := by decide +kernel
theorem dX8_sorts_80 : decode cX8_sorts 80 = .ok (.iload_n 2, 1) := by decide +kernel
theorem dX8_sorts_81 : decode cX8_sorts 81 = .ok (.if_icmp .le 55, 3) := by decide +kernel
theorem dX8_sorts_84 : decode cX8_sorts 84 = .ok (.aload_n 0, 1) := by decide +kernel
theorem dX8_sorts_85 : decode cX8_sorts 85 = .ok (.iload 5, 2) := by decide +kernel
theorem dX8_sorts_87 : decode cX8_sorts 87 = .ok (.aload_n 0, 1) := by decide +kernel
theorem dX8_sorts_88 : decode cX8_sorts 88 = .ok (.getfield 7, 3) := by decide +kernel
theorem dX8_sorts_91 : decode cX8_sorts 91 = .ok (.sipush 380, 3) := by decide +kernel
theorem dX8_sorts_94 : decode cX8_sorts 94 = .ok (.iload 6, 2) := by decide +kernel
theorem dX8_sorts_96 : decode cX8_sorts 96 = .ok (.iadd, 1) := by decide +kernel
theorem dX8_sorts_97 : decode cX8_sorts 97 = .ok (.iconst 1, 1) := by decide +kernel
theorem dX8_sorts_98 : decode cX8_sorts 98 = .ok (.isub, 1) := by decide +kernel
theorem dX8_sorts_99 : decode cX8_sorts 99 = .ok (.iaload, 1) := by decide +kernel
theorem dX8_sorts_100 : decode cX8_sorts 100 = .ok (.invokevirtual 169, 3) := by decide +kernel
theorem dX8_sorts_103 : decode cX8_sorts 103 = .ok (.ifCond .eq 33, 3) := by decide +kernel
theorem dX8_sorts_106 : decode cX8_sorts 106 = .ok (.aload_n 0, 1) := by decide +kernel
theorem dX8_sorts_107 : decode cX8_sorts 107 = .ok (.getfield 7, 3) := by decide +kernel
theorem dX8_sorts_110 : decode cX8_sorts 110 = .ok (.sipush 380, 3) := by decide +kernel
theorem dX8_sorts_113 : decode cX8_sorts 113 = .ok (.iload 6, 2) := by decide +kernel
theorem dX8_sorts_115 : decode cX8_sorts 115 = .ok (.iadd, 1) := by decide +kernel
theorem dX8_sorts_116 : decode cX8_sorts 116 = .ok (.aload_n 0, 1) := by decide +kernel
theorem dX8_sorts_117 : decode cX8_sorts 117 = .ok (.getfield 7, 3) := by decide +kernel
theorem dX8_sorts_120 : decode cX8_sorts 120 = .ok (.sipush 380, 3) := by decide +kernel
theorem dX8_sorts_123 : decode cX8_sorts 123 = .ok (.iload 6, 2) := by decide +kernel
theorem dX8_sorts_125 : decode cX8_sorts 125 = .ok (.iadd, 1) := by decide +kernel
theorem dX8_sorts_126 : decode cX8_sorts 126 = .ok (.iconst 1, 1) := by decide +kernel
theorem dX8_sorts_127 : decode cX8_sorts 127 = .ok (.isub, 1) := by decide +kernel
theorem dX8_sorts_128 : decode cX8_sorts 128 = .ok (.iaload, 1) := by decide +kernel
theorem dX8_sorts_129 : decode cX8_sorts 129 = .ok (.iastore, 1) := by decide +kernel
theorem dX8_sorts_130 : decode cX8_sorts 130 = .ok (.iinc 6 (-1), 3) := by decide +kernel
theorem dX8_sorts_133 : decode cX8_sorts 133 = .ok (.goto (-55), 3) := by decide +kernel
theorem dX8_sorts_136 : decode cX8_sorts 136 = .ok (.aload_n 0, 1) := by decide +kernel
theorem dX8_sorts_137 : decode cX8_sorts 137 = .ok (.getfield 7, 3) := by decide +kernel
theorem dX8_sorts_140 : decode cX8_sorts 140 = .ok (.sipush 380, 3) := by decide +kernel
theorem dX8_sorts_143 : decode cX8_sorts 143 = .ok (.iload 6, 2) := by decide +kernel
theorem dX8_sorts_145 : decode cX8_sorts 145 = .ok (.iadd, 1) := by decide +kernel
theorem dX8_sorts_146 : decode cX8_sorts 146 = .ok (.iload 5, 2) := by decide +kernel
theorem dX8_sorts_148 : decode cX8_sorts 148 = .ok (.iastore, 1) := by decide +kernel
theorem dX8_sorts_149 : decode cX8_sorts 149 = .ok (.iinc 4 1, 3) := by decide +kernel
theorem dX8_sorts_152 : decode cX8_sorts 152 = .ok (.goto (-101), 3) := by decide +kernel
theorem dX8_sorts_155 : decode cX8_sorts 155 = .ok (.aload_n 0, 1) := by decide +kernel
theorem dX8_sorts_156 : decode cX8_sorts 156 = .ok (.iload_n 1, 1) := by decide +kernel
theorem dX8_sorts_157 : decode cX8_sorts 157 = .ok (.iconst 3, 1) := by decide +kernel
theorem dX8_sorts_158 : decode cX8_sorts 158 = .ok (.iconst 1, 1) := by decide +kernel
theorem dX8_sorts_159 : decode cX8_sorts 159 = .ok (.invokevirtual 162, 3) := by decide +kernel
theorem dX8_sorts_162 : decode cX8_sorts 162 = .ok (.iconst 0, 1) := by decide +kernel
theorem dX8_sorts_163 : decode cX8_sorts 163 = .ok (.istore 4, 2) := by decide +kernel
theorem dX8_sorts_165 : decode cX8_sorts 165 = .ok (.iconst 0, 1) := by decide +kernel
theorem dX8_sorts_166 : decode cX8_sorts 166 = .ok (.istore 5, 2) := by decide +kernel
theorem dX8_sorts_168 : decode cX8_sorts 168 = .ok (.iload 5, 2) := by decide +kernel
theorem dX8_sorts_170 : decode cX8_sorts 170 = .ok (.iload_n 3, 1) := by decide +kernel
theorem dX8_sorts_171 : decode cX8_sorts 171 = .ok (.if_icmp .ge 42, 3) := by decide +kernel
theorem dX8_sorts_174 : decode cX8_sorts 174 = .ok (.iload 4, 2) := by decide +kernel
theorem dX8_sorts_176 : decode cX8_sorts 176 = .ok (.aload_n 0, 1) := by decide +kernel
theorem dX8_sorts_177 : decode cX8_sorts 177 = .ok (.getfield 7, 3) := by decide +kernel
theorem dX8_sorts_180 : decode cX8_sorts 180 = .ok (.sipush 380, 3) := by decide +kernel
theorem dX8_sorts_183 : decode cX8_sorts 183 = .ok (.iload_n 2, 1) := by decide +kernel
theorem dX8_sorts_184 : decode cX8_sorts 184 = .ok (.iadd, 1) := by decide +kernel
theorem dX8_sorts_185 : decode cX8_sorts 185 = .ok (.iload 5, 2) := by decide +kernel
theorem dX8_sorts_187 : decode cX8_sorts 187 = .ok (.iadd, 1) := by decide +kernel
theorem dX8_sorts_188 : decode cX8_sorts 188 = .ok (.iaload, 1) := by decide +kernel
theorem dX8_sorts_189 : decode cX8_sorts 189 = .ok (.aload_n 0, 1) := by decide +kernel
theorem dX8_sorts_190 : decode cX8_sorts 190 = .ok (.getfield 29, 3) := by decide +kernel
theorem dX8_sorts_193 : decode cX8_sorts 193 = .ok (.iload 5, 2) := by decide +kernel
theorem dX8_sorts_195 : decode cX8_sorts 195 = .ok (.iaload, 1) := by decide +kernel
theorem dX8_sorts_196 : decode cX8_sorts 196 = .ok (.if_icmp .eq 7, 3) := by decide +kernel
theorem dX8_sorts_199 : decode cX8_sorts 199 = .ok (.iconst 1, 1) := by decide +kernel
theorem dX8_sorts_200 : decode cX8_sorts 200 = .ok (.goto 4, 3) := by decide +kernel
theorem dX8_sorts_203 : decode cX8_sorts 203 = .ok (.iconst 0, 1) := by decide +kernel
theorem dX8_sorts_204 : decode cX8_sorts 204 = .ok (.iadd, 1) := by decide +kernel
theorem dX8_sorts_205 : decode cX8_sorts 205 = .ok (.istore 4, 2) := by decide +kernel
theorem dX8_sorts_207 : decode cX8_sorts 207 = .ok (.iinc 5 1, 3) := by decide +kernel
theorem dX8_sorts_210 : decode cX8_sorts 210 = .ok (.goto (-42), 3) := by decide +kernel
theorem dX8_sorts_213 : decode cX8_sorts 213 = .ok (.iload 4, 2) := by decide +kernel
theorem dX8_sorts_215 : decode cX8_sorts 215 = .ok (.ireturn, 1) := by decide +kernel
set_option maxRecDepth 20000 in
theorem ggX8_joins_X8_of : GoodIn wsX8_joins wsX8_of := goodIn_r _ [6, 1, 11, 12, 13, 14, 15, 16, 17, 18, 19, 20, 21, 22, 23, 24, 25, 26, 27, 28, 29, 30] (by decide +kernel) (by decide +kernel)
set_option maxRecDepth 20000 in
theorem gX8_joins_X8_of : GoodIn wsX8_joins (wsV RX8 150 RX8 yX8_of wsX8_of) := goodIn_app (goodIn_of _ (by decide +kernel)) ggX8_joins_X8_of
set_option maxRecDepth 20000 in
theorem ggX8_joins_X8_puts : GoodIn wsX8_joins wsX8_puts := goodIn_r _ [10, 1, 11, 12, 13, 14, 15, 16, 17, 18, 19, 20, 21, 22, 23, 24, 25, 26, 27, 28, 29, 30] (by decide +kernel) (by decide +kernel)
set_option maxRecDepth 20000 in
theorem gX8_joins_X8_puts : GoodIn wsX8_joins (wsV RX8 162 RX8 yX8_puts wsX8_puts) := goodIn_app (goodIn_of _ (by decide +kernel)) ggX8_joins_X8_puts
theorem dX8_joins_0 : decode cX8_joins 0 = .ok (.aload_n 0, 1) := by decide +kernel
theorem dX8_joins_1 : decode cX8_joins 1 = .ok (.iload_n 1, 1) := by decide +kernel
theorem dX8_joins_2 : decode cX8_joins 2 = .ok (.iconst 1, 1) := by decide +kernel
theorem dX8_joins_3 : decode cX8_joins 3 = .ok (.aload_n 0, 1) := by decide +kernel
theorem dX8_joins_4 : decode cX8_joins 4 = .ok (.iload_n 1, 1) := by decide +kernel
theorem dX8_joins_5 : decode cX8_joins 5 = .ok (.iconst 1, 1) := by decide +kernel
theorem dX8_joins_6 : decode cX8_joins 6 = .ok (.invokevirtual 150, 3) := by decide +kernel
theorem dX8_joins_9 : decode cX8_joins 9 = .ok (.aload_n 0, 1) := by decide +kernel
theorem dX8_joins_10 : decode cX8_joins 10 = .ok (.iload_n 1, 1) := by decide +kernel
theorem dX8_joins_11 : decode cX8_joins 11 = .ok (.iconst 1, 1) := by decide +kernel
theorem dX8_joins_12 : decode cX8_joins 12 = .ok (.iadd, 1) := by decide +kernel
theorem dX8_joins_13 : decode cX8_joins 13 = .ok (.iconst 1, 1) := by decide +kernel
theorem dX8_joins_14 : decode cX8_joins 14 = .ok (.invokevirtual 150, 3) := by decide +kernel
theorem dX8_joins_17 : decode cX8_joins 17 = .ok (.iadd, 1) := by decide +kernel
theorem dX8_joins_18 : decode cX8_joins 18 = .ok (.invokevirtual 162, 3) := by decide +kernel
theorem dX8_joins_21 : decode cX8_joins 21 = .ok (.aload_n 0, 1) := by decide +kernel
theorem dX8_joins_22 : decode cX8_joins 22 = .ok (.iload_n 1, 1) := by decide +kernel
theorem dX8_joins_23 : decode cX8_joins 23 = .ok (.iconst 2, 1) := by decide +kernel
theorem dX8_joins_24 : decode cX8_joins 24 = .ok (.aload_n 0, 1) := by decide +kernel
theorem dX8_joins_25 : decode cX8_joins 25 = .ok (.iload_n 1, 1) := by decide +kernel
theorem dX8_joins_26 : decode cX8_joins 26 = .ok (.iconst 2, 1) := by decide +kernel
theorem dX8_joins_27 : decode cX8_joins 27 = .ok (.invokevirtual 150, 3) := by decide +kernel
theorem dX8_joins_30 : decode cX8_joins 30 = .ok (.aload_n 0, 1) := by decide +kernel
theorem dX8_joins_31 : decode cX8_joins 31 = .ok (.iload_n 1, 1) := by decide +kernel
theorem dX8_joins_32 : decode cX8_joins 32 = .ok (.iconst 1, 1) := by decide +kernel
theorem dX8_joins_33 : decode cX8_joins 33 = .ok (.iadd, 1) := by decide +kernel
theorem dX8_joins_34 : decode cX8_joins 34 = .ok (.iconst 2, 1) := by decide +kernel
theorem dX8_joins_35 : decode cX8_joins 35 = .ok (.invokevirtual 150, 3) := by decide +kernel
theorem dX8_joins_38 : decode cX8_joins 38 = .ok (.iadd, 1) := by decide +kernel
theorem dX8_joins_39 : decode cX8_joins 39 = .ok (.invokevirtual 162, 3) := by decide +kernel
theorem dX8_joins_42 : decode cX8_joins 42 = .ok (.aload_n 0, 1) := by decide +kernel
theorem dX8_joins_43 : decode cX8_joins 43 = .ok (.iload_n 1, 1) := by decide +kernel
theorem dX8_joins_44 : decode cX8_joins 44 = .ok (.iconst 3, 1) := by decide +kernel
theorem dX8_joins_45 : decode cX8_joins 45 = .ok (.aload_n 0, 1) := by decide +kernel
theorem dX8_joins_46 : decode cX8_joins 46 = .ok (.iload_n 1, 1) := by decide +kernel
theorem dX8_joins_47 : decode cX8_joins 47 = .ok (.iconst 3, 1) := by decide +kernel
theorem dX8_joins_48 : decode cX8_joins 48 = .ok (.invokevirtual 150, 3) := by decide +kernel
theorem dX8_joins_51 : decode cX8_joins 51 = .ok (.aload_n 0, 1) := by decide +kernel
theorem dX8_joins_52 : decode cX8_joins 52 = .ok (.iload_n 1, 1) := by decide +kernel
theorem dX8_joins_53 : decode cX8_joins 53 = .ok (.iconst 1, 1) := by decide +kernel
theorem dX8_joins_54 : decode cX8_joins 54 = .ok (.iadd, 1) := by decide +kernel
theorem dX8_joins_55 : decode cX8_joins 55 = .ok (.iconst 3, 1) := by decide +kernel
theorem dX8_joins_56 : decode cX8_joins 56 = .ok (.invokevirtual 150, 3) := by decide +kernel
theorem dX8_joins_59 : decode cX8_joins 59 = .ok (.imul, 1) := by decide +kernel
theorem dX8_joins_60 : decode cX8_joins 60 = .ok (.invokevirtual 162, 3) := by decide +kernel
theorem dX8_joins_63 : decode cX8_joins 63 = .ok (.aload_n 0, 1) := by decide +kernel
theorem dX8_joins_64 : decode cX8_joins 64 = .ok (.getfield 7, 3) := by decide +kernel
theorem dX8_joins_67 : decode cX8_joins 67 = .ok (.iconst 3, 1) := by decide +kernel
theorem dX8_joins_68 : decode cX8_joins 68 = .ok (.dup2, 1) := by decide +kernel
theorem dX8_joins_69 : decode cX8_joins 69 = .ok (.iaload, 1) := by decide +kernel
theorem dX8_joins_70 : decode cX8_joins 70 = .ok (.iconst 1, 1) := by decide +kernel
theorem dX8_joins_71 : decode cX8_joins 71 = .ok (.isub, 1) := by decide +kernel
theorem dX8_joins_72 : decode cX8_joins 72 = .ok (.iastore, 1) := by decide +kernel
theorem dX8_joins_73 : decode cX8_joins 73 = .ok (.sipush 540, 3) := by decide +kernel
theorem dX8_joins_76 : decode cX8_joins 76 = .ok (.iconst 4, 1) := by decide +kernel
theorem dX8_joins_77 : decode cX8_joins 77 = .ok (.iload_n 1, 1) := by decide +kernel
theorem dX8_joins_78 : decode cX8_joins 78 = .ok (.iconst 1, 1) := by decide +kernel
theorem dX8_joins_79 : decode cX8_joins 79 = .ok (.iadd, 1) := by decide +kernel
theorem dX8_joins_80 : decode cX8_joins 80 = .ok (.imul, 1) := by decide +kernel
theorem dX8_joins_81 : decode cX8_joins 81 = .ok (.iadd, 1) := by decide +kernel
theorem dX8_joins_82 : decode cX8_joins 82 = .ok (.istore_n 2, 1) := by decide +kernel
theorem dX8_joins_83 : decode cX8_joins 83 = .ok (.iload_n 2, 1) := by decide +kernel
theorem dX8_joins_84 : decode cX8_joins 84 = .ok (.sipush 540, 3) := by decide +kernel
theorem dX8_joins_87 : decode cX8_joins 87 = .ok (.iconst 4, 1) := by decide +kernel
theorem dX8_joins_88 : decode cX8_joins 88 = .ok (.aload_n 0, 1) := by decide +kernel
theorem dX8_joins_89 : decode cX8_joins 89 = .ok (.getfield 7, 3) := by decide +kernel
theorem dX8_joins_92 : decode cX8_joins 92 = .ok (.iconst 3, 1) := by decide +kernel
theorem dX8_joins_93 : decode cX8_joins 93 = .ok (.iaload, 1) := by decide +kernel
theorem dX8_joins_94 : decode cX8_joins 94 = .ok (.imul, 1) := by decide +kernel
theorem dX8_joins_95 : decode cX8_joins 95 = .ok (.iadd, 1) := by decide +kernel
theorem dX8_joins_96 : decode cX8_joins 96 = .ok (.if_icmp .ge 23, 3) := by decide +kernel
theorem dX8_joins_99 : decode cX8_joins 99 = .ok (.aload_n 0, 1) := by decide +kernel
theorem dX8_joins_100 : decode cX8_joins 100 = .ok (.getfield 7, 3) := by decide +kernel
theorem dX8_joins_103 : decode cX8_joins 103 = .ok (.iload_n 2, 1) := by decide +kernel
theorem dX8_joins_104 : decode cX8_joins 104 = .ok (.aload_n 0, 1) := by decide +kernel
theorem dX8_joins_105 : decode cX8_joins 105 = .ok (.getfield 7, 3) := by decide +kernel
theorem dX8_joins_108 : decode cX8_joins 108 = .ok (.iload_n 2, 1) := by decide +kernel
theorem dX8_joins_109 : decode cX8_joins 109 = .ok (.iconst 4, 1) := by decide +kernel
theorem dX8_joins_110 : decode cX8_joins 110 = .ok (.iadd, 1) := by decide +kernel
theorem dX8_joins_111 : decode cX8_joins 111 = .ok (.iaload, 1) := by decide +kernel
theorem dX8_joins_112 : decode cX8_joins 112 = .ok (.iastore, 1) := by decide +kernel
theorem dX8_joins_113 : decode cX8_joins 113 = .ok (.iinc 2 1, 3) := by decide +kernel
theorem dX8_joins_116 : decode cX8_joins 116 = .ok (.goto (-33), 3) := by decide +kernel
theorem dX8_joins_119 : decode cX8_joins 119 = .ok (.return_, 1) := by decide +kernel
set_option maxRecDepth 20000 in
theorem ggX8_coldest_X8_of : GoodIn wsX8_coldest wsX8_of := goodIn_r _ [6, 1, 7, 8, 9, 10, 11, 12, 13, 14, 15, 16, 17, 18, 19, 20, 21, 22, 23, 24, 25, 26] (by decide +kernel) (by decide +kernel)
set_option maxRecDepth 20000 in
theorem gX8_coldest_X8_of : GoodIn wsX8_coldest (wsV RX8 150 RX8 yX8_of wsX8_of) := goodIn_app (goodIn_of _ (by decide +kernel)) ggX8_coldest_X8_of
theorem dX8_coldest_0 : decode cX8_coldest 0 = .ok (.iconst 0, 1) := by decide +kernel
theorem dX8_coldest_1 : decode cX8_coldest 1 = .ok (.istore_n 1, 1) := by decide +kernel
theorem dX8_coldest_2 : decode cX8_coldest 2 = .ok (.iconst 1, 1) := by decide +kernel
theorem dX8_coldest_3 : decode cX8_coldest 3 = .ok (.istore_n 2, 1) := by decide +kernel
theorem dX8_coldest_4 : decode cX8_coldest 4 = .ok (.iload_n 2, 1) := by decide +kernel
theorem dX8_coldest_5 : decode cX8_coldest 5 = .ok (.aload_n 0, 1) := by decide +kernel
theorem dX8_coldest_6 : decode cX8_coldest 6 = .ok (.getfield 7, 3) := by decide +kernel
theorem dX8_coldest_9 : decode cX8_coldest 9 = .ok (.iconst 3, 1) := by decide +kernel
theorem dX8_coldest_10 : decode cX8_coldest 10 = .ok (.iaload, 1) := by decide +kernel
theorem dX8_coldest_11 : decode cX8_coldest 11 = .ok (.iconst 1, 1) := by decide +kernel
theorem dX8_coldest_12 : decode cX8_coldest 12 = .ok (.isub, 1) := by decide +kernel
theorem dX8_coldest_13 : decode cX8_coldest 13 = .ok (.if_icmp .ge 48, 3) := by decide +kernel
theorem dX8_coldest_16 : decode cX8_coldest 16 = .ok (.aload_n 0, 1) := by decide +kernel
theorem dX8_coldest_17 : decode cX8_coldest 17 = .ok (.iload_n 2, 1) := by decide +kernel
theorem dX8_coldest_18 : decode cX8_coldest 18 = .ok (.iconst 2, 1) := by decide +kernel
theorem dX8_coldest_19 : decode cX8_coldest 19 = .ok (.invokevirtual 150, 3) := by decide +kernel
theorem dX8_coldest_22 : decode cX8_coldest 22 = .ok (.aload_n 0, 1) := by decide +kernel
theorem dX8_coldest_23 : decode cX8_coldest 23 = .ok (.iload_n 2, 1) := by decide +kernel
theorem dX8_coldest_24 : decode cX8_coldest 24 = .ok (.iconst 1, 1) := by decide +kernel
theorem dX8_coldest_25 : decode cX8_coldest 25 = .ok (.iadd, 1) := by decide +kernel
theorem dX8_coldest_26 : decode cX8_coldest 26 = .ok (.iconst 2, 1) := by decide +kernel
theorem dX8_coldest_27 : decode cX8_coldest 27 = .ok (.invokevirtual 150, 3) := by decide +kernel
theorem dX8_coldest_30 : decode cX8_coldest 30 = .ok (.iadd, 1) := by decide +kernel
theorem dX8_coldest_31 : decode cX8_coldest 31 = .ok (.aload_n 0, 1) := by decide +kernel
theorem dX8_coldest_32 : decode cX8_coldest 32 = .ok (.iload_n 1, 1) := by decide +kernel
theorem dX8_coldest_33 : decode cX8_coldest 33 = .ok (.iconst 2, 1) := by decide +kernel
theorem dX8_coldest_34 : decode cX8_coldest 34 = .ok (.invokevirtual 150, 3) := by decide +kernel
theorem dX8_coldest_37 : decode cX8_coldest 37 = .ok (.aload_n 0, 1) := by decide +kernel
theorem dX8_coldest_38 : decode cX8_coldest 38 = .ok (.iload_n 1, 1) := by decide +kernel
theorem dX8_coldest_39 : decode cX8_coldest 39 = .ok (.iconst 1, 1) := by decide +kernel
theorem dX8_coldest_40 : decode cX8_coldest 40 = .ok (.iadd, 1) := by decide +kernel
theorem dX8_coldest_41 : decode cX8_coldest 41 = .ok (.iconst 2, 1) := by decide +kernel
theorem dX8_coldest_42 : decode cX8_coldest 42 = .ok (.invokevirtual 150, 3) := by decide +kernel
theorem dX8_coldest_45 : decode cX8_coldest 45 = .ok (.iadd, 1) := by decide +kernel
theorem dX8_coldest_46 : decode cX8_coldest 46 = .ok (.if_icmp .ge 7, 3) := by decide +kernel
theorem dX8_coldest_49 : decode cX8_coldest 49 = .ok (.iload_n 2, 1) := by decide +kernel
theorem dX8_coldest_50 : decode cX8_coldest 50 = .ok (.goto 4, 3) := by decide +kernel
theorem dX8_coldest_53 : decode cX8_coldest 53 = .ok (.iload_n 1, 1) := by decide +kernel
theorem dX8_coldest_54 : decode cX8_coldest 54 = .ok (.istore_n 1, 1) := by decide +kernel
theorem dX8_coldest_55 : decode cX8_coldest 55 = .ok (.iinc 2 1, 3) := by decide +kernel
theorem dX8_coldest_58 : decode cX8_coldest 58 = .ok (.goto (-54), 3) := by decide +kernel
theorem dX8_coldest_61 : decode cX8_coldest 61 = .ok (.iload_n 1, 1) := by decide +kernel
theorem dX8_coldest_62 : decode cX8_coldest 62 = .ok (.ireturn, 1) := by decide +kernel
theorem dX8_placeOf_0 : decode cX8_placeOf 0 = .ok (.iconst 0, 1) := by decide +kernel
theorem dX8_placeOf_1 : decode cX8_placeOf 1 = .ok (.istore_n 2, 1) := by decide +kernel
theorem dX8_placeOf_2 : decode cX8_placeOf 2 = .ok (.iload_n 2, 1) := by decide +kernel
theorem dX8_placeOf_3 : decode cX8_placeOf 3 = .ok (.aload_n 0, 1) := by decide +kernel
theorem dX8_placeOf_4 : decode cX8_placeOf 4 = .ok (.getfield 7, 3) := by decide +kernel
theorem dX8_placeOf_7 : decode cX8_placeOf 7 = .ok (.iconst 1, 1) := by decide +kernel
theorem dX8_placeOf_8 : decode cX8_placeOf 8 = .ok (.iaload, 1) := by decide +kernel
theorem dX8_placeOf_9 : decode cX8_placeOf 9 = .ok (.if_icmp .ge 25, 3) := by decide +kernel
theorem dX8_placeOf_12 : decode cX8_placeOf 12 = .ok (.aload_n 0, 1) := by decide +kernel
theorem dX8_placeOf_13 : decode cX8_placeOf 13 = .ok (.getfield 7, 3) := by decide +kernel
theorem dX8_placeOf_16 : decode cX8_placeOf 16 = .ok (.sipush 380, 3) := by decide +kernel
theorem dX8_placeOf_19 : decode cX8_placeOf 19 = .ok (.iload_n 2, 1) := by decide +kernel
theorem dX8_placeOf_20 : decode cX8_placeOf 20 = .ok (.iadd, 1) := by decide +kernel
theorem dX8_placeOf_21 : decode cX8_placeOf 21 = .ok (.iaload, 1) := by decide +kernel
theorem dX8_placeOf_22 : decode cX8_placeOf 22 = .ok (.iload_n 1, 1) := by decide +kernel
theorem dX8_placeOf_23 : decode cX8_placeOf 23 = .ok (.if_icmp .ne 5, 3) := by decide +kernel
theorem dX8_placeOf_26 : decode cX8_placeOf 26 = .ok (.iload_n 2, 1) := by decide +kernel
theorem dX8_placeOf_27 : decode cX8_placeOf 27 = .ok (.ireturn, 1) := by decide +kernel
theorem dX8_placeOf_28 : decode cX8_placeOf 28 = .ok (.iinc 2 1, 3) := by decide +kernel
theorem dX8_placeOf_31 : decode cX8_placeOf 31 = .ok (.goto (-29), 3) := by decide +kernel
theorem dX8_placeOf_34 : decode cX8_placeOf 34 = .ok (.iconst (-1), 1) := by decide +kernel
theorem dX8_placeOf_35 : decode cX8_placeOf 35 = .ok (.ireturn, 1) := by decide +kernel
set_option maxRecDepth 20000 in
theorem ggX8_comes_X8_firstPlace : GoodIn wsX8_comes wsX8_firstPlace := goodIn_r _ [6, 7, 8, 9, 5, 10, 1, 19, 20, 21, 22, 23, 24, 25, 26, 27, 28, 29, 30, 31, 32, 33, 34, 35, 36, 37, 38] (by decide +kernel) (by decide +kernel)
set_option maxRecDepth 20000 in
theorem gX8_comes_X8_firstPlace : GoodIn wsX8_comes (wsV RX8 156 RX8 yX8_firstPlace wsX8_firstPlace) := goodIn_app (goodIn_of _ (by decide +kernel)) ggX8_comes_X8_firstPlace
set_option maxRecDepth 20000 in
theorem ggX8_comes_X8_of : GoodIn wsX8_comes wsX8_of := goodIn_r _ [10, 1, 19, 20, 21, 22, 23, 24, 25, 26, 27, 28, 29, 30, 31, 32, 33, 34, 35, 36, 37, 38] (by decide +kernel) (by decide +kernel)
set_option maxRecDepth 20000 in
theorem gX8_comes_X8_of : GoodIn wsX8_comes (wsV RX8 150 RX8 yX8_of wsX8_of) := goodIn_app (goodIn_of _ (by decide +kernel)) ggX8_comes_X8_of
set_option maxRecDepth 20000 in
theorem ggX8_comes_X8_isAhead : GoodIn wsX8_comes wsX8_isAhead := goodIn_r _ [14, 1, 19, 20, 21, 22, 23, 24, 25, 26, 27, 28, 29, 30, 31, 32, 33, 34, 35, 36, 37, 38] (by decide +kernel) (by decide +kernel)
set_option maxRecDepth 20000 in
theorem gX8_comes_X8_isAhead : GoodIn wsX8_comes (wsV RX8 169 RX8 yX8_isAhead wsX8_isAhead) := goodIn_app (goodIn_of _ (by decide +kernel)) ggX8_comes_X8_isAhead
set_option maxRecDepth 20000 in
theorem ggX8_comes_X8_puts : GoodIn wsX8_comes wsX8_puts := goodIn_r _ [18, 1, 19, 20, 21, 22, 23, 24, 25, 26, 27, 28, 29, 30, 31, 32, 33, 34, 35, 36, 37, 38] (by decide +kernel) (by decide +kernel)
set_option maxRecDepth 20000 in
theorem gX8_comes_X8_puts : GoodIn wsX8_comes (wsV RX8 162 RX8 yX8_puts wsX8_puts) := goodIn_app (goodIn_of _ (by decide +kernel)) ggX8_comes_X8_puts
theorem dX8_comes_0 : decode cX8_comes 0 = .ok (.aload_n 0, 1) := by decide +kernel
theorem dX8_comes_1 : decode cX8_comes 1 = .ok (.iload_n 2, 1) := by decide +kernel
theorem dX8_comes_2 : decode cX8_comes 2 = .ok (.invokevirtual 156, 3) := by decide +kernel
theorem dX8_comes_5 : decode cX8_comes 5 = .ok (.aload_n 0, 1) := by decide +kernel
theorem dX8_comes_6 : decode cX8_comes 6 = .ok (.iload_n 2, 1) := by decide +kernel
theorem dX8_comes_7 : decode cX8_comes 7 = .ok (.iconst 1, 1) := by decide +kernel
theorem dX8_comes_8 : decode cX8_comes 8 = .ok (.invokevirtual 150, 3) := by decide +kernel
theorem dX8_comes_11 : decode cX8_comes 11 = .ok (.iadd, 1) := by decide +kernel
theorem dX8_comes_12 : decode cX8_comes 12 = .ok (.istore_n 3, 1) := by decide +kernel
theorem dX8_comes_13 : decode cX8_comes 13 = .ok (.aload_n 0, 1) := by decide +kernel
theorem dX8_comes_14 : decode cX8_comes 14 = .ok (.iload_n 2, 1) := by decide +kernel
theorem dX8_comes_15 : decode cX8_comes 15 = .ok (.iconst 3, 1) := by decide +kernel
theorem dX8_comes_16 : decode cX8_comes 16 = .ok (.invokevirtual 150, 3) := by decide +kernel
theorem dX8_comes_19 : decode cX8_comes 19 = .ok (.iconst 1, 1) := by decide +kernel
theorem dX8_comes_20 : decode cX8_comes 20 = .ok (.if_icmp .ne 38, 3) := by decide +kernel
theorem dX8_comes_23 : decode cX8_comes 23 = .ok (.iload_n 3, 1) := by decide +kernel
theorem dX8_comes_24 : decode cX8_comes 24 = .ok (.aload_n 0, 1) := by decide +kernel
theorem dX8_comes_25 : decode cX8_comes 25 = .ok (.iload_n 2, 1) := by decide +kernel
theorem dX8_comes_26 : decode cX8_comes 26 = .ok (.invokevirtual 156, 3) := by decide +kernel
theorem dX8_comes_29 : decode cX8_comes 29 = .ok (.if_icmp .le 29, 3) := by decide +kernel
theorem dX8_comes_32 : decode cX8_comes 32 = .ok (.aload_n 0, 1) := by decide +kernel
theorem dX8_comes_33 : decode cX8_comes 33 = .ok (.iload_n 1, 1) := by decide +kernel
theorem dX8_comes_34 : decode cX8_comes 34 = .ok (.aload_n 0, 1) := by decide +kernel
theorem dX8_comes_35 : decode cX8_comes 35 = .ok (.getfield 7, 3) := by decide +kernel
theorem dX8_comes_38 : decode cX8_comes 38 = .ok (.sipush 380, 3) := by decide +kernel
theorem dX8_comes_41 : decode cX8_comes 41 = .ok (.iload_n 3, 1) := by decide +kernel
theorem dX8_comes_42 : decode cX8_comes 42 = .ok (.iadd, 1) := by decide +kernel
theorem dX8_comes_43 : decode cX8_comes 43 = .ok (.iconst 1, 1) := by decide +kernel
theorem dX8_comes_44 : decode cX8_comes 44 = .ok (.isub, 1) := by decide +kernel
theorem dX8_comes_45 : decode cX8_comes 45 = .ok (.iaload, 1) := by decide +kernel
theorem dX8_comes_46 : decode cX8_comes 46 = .ok (.invokevirtual 169, 3) := by decide +kernel
theorem dX8_comes_49 : decode cX8_comes 49 = .ok (.ifCond .eq 9, 3) := by decide +kernel
theorem dX8_comes_52 : decode cX8_comes 52 = .ok (.iinc 3 (-1), 3) := by decide +kernel
theorem dX8_comes_55 : decode cX8_comes 55 = .ok (.goto (-42), 3) := by decide +kernel
theorem dX8_comes_58 : decode cX8_comes 58 = .ok (.aload_n 0, 1) := by decide +kernel
theorem dX8_comes_59 : decode cX8_comes 59 = .ok (.getfield 7, 3) := by decide +kernel
theorem dX8_comes_62 : decode cX8_comes 62 = .ok (.iconst 1, 1) := by decide +kernel
theorem dX8_comes_63 : decode cX8_comes 63 = .ok (.iaload, 1) := by decide +kernel
theorem dX8_comes_64 : decode cX8_comes 64 = .ok (.istore 4, 2) := by decide +kernel
theorem dX8_comes_66 : decode cX8_comes 66 = .ok (.iload 4, 2) := by decide +kernel
theorem dX8_comes_68 : decode cX8_comes 68 = .ok (.iload_n 3, 1) := by decide +kernel
theorem dX8_comes_69 : decode cX8_comes 69 = .ok (.if_icmp .le 33, 3) := by decide +kernel
theorem dX8_comes_72 : decode cX8_comes 72 = .ok (.aload_n 0, 1) := by decide +kernel
theorem dX8_comes_73 : decode cX8_comes 73 = .ok (.getfield 7, 3) := by decide +kernel
theorem dX8_comes_76 : decode cX8_comes 76 = .ok (.sipush 380, 3) := by decide +kernel
theorem dX8_comes_79 : decode cX8_comes 79 = .ok (.iload 4, 2) := by decide +kernel
theorem dX8_comes_81 : decode cX8_comes 81 = .ok (.iadd, 1) := by decide +kernel
theorem dX8_comes_82 : decode cX8_comes 82 = .ok (.aload_n 0, 1) := by decide +kernel
theorem dX8_comes_83 : decode cX8_comes 83 = .ok (.getfield 7, 3) := by decide +kernel
theorem dX8_comes_86 : decode cX8_comes 86 = .ok (.sipush 380, 3) := by decide +kernel
theorem dX8_comes_89 : decode cX8_comes 89 = .ok (.iload 4, 2) := by decide +kernel
theorem dX8_comes_91 : decode cX8_comes 91 = .ok (.iadd, 1) := by decide +kernel
theorem dX8_comes_92 : decode cX8_comes 92 = .ok (.iconst 1, 1) := by decide +kernel
theorem dX8_comes_93 : decode cX8_comes 93 = .ok (.isub, 1) := by decide +kernel
theorem dX8_comes_94 : decode cX8_comes 94 = .ok (.iaload, 1) := by decide +kernel
theorem dX8_comes_95 : decode cX8_comes 95 = .ok (.iastore, 1) := by decide +kernel
theorem dX8_comes_96 : decode cX8_comes 96 = .ok (.iinc 4 (-1), 3) := by decide +kernel
theorem dX8_comes_99 : decode cX8_comes 99 = .ok (.goto (-33), 3) := by decide +kernel
theorem dX8_comes_102 : decode cX8_comes 102 = .ok (.aload_n 0, 1) := by decide +kernel
theorem dX8_comes_103 : decode cX8_comes 103 = .ok (.getfield 7, 3) := by decide +kernel
theorem dX8_comes_106 : decode cX8_comes 106 = .ok (.sipush 380, 3) := by decide +kernel
theorem dX8_comes_109 : decode cX8_comes 109 = .ok (.iload_n 3, 1) := by decide +kernel
theorem dX8_comes_110 : decode cX8_comes 110 = .ok (.iadd, 1) := by decide +kernel
theorem dX8_comes_111 : decode cX8_comes 111 = .ok (.iload_n 1, 1) := by decide +kernel
theorem dX8_comes_112 : decode cX8_comes 112 = .ok (.iastore, 1) := by decide +kernel
theorem dX8_comes_113 : decode cX8_comes 113 = .ok (.aload_n 0, 1) := by decide +kernel
theorem dX8_comes_114 : decode cX8_comes 114 = .ok (.getfield 7, 3) := by decide +kernel
theorem dX8_comes_117 : decode cX8_comes 117 = .ok (.iconst 1, 1) := by decide +kernel
theorem dX8_comes_118 : decode cX8_comes 118 = .ok (.dup2, 1) := by decide +kernel
theorem dX8_comes_119 : decode cX8_comes 119 = .ok (.iaload, 1) := by decide +kernel
theorem dX8_comes_120 : decode cX8_comes 120 = .ok (.iconst 1, 1) := by decide +kernel
theorem dX8_comes_121 : decode cX8_comes 121 = .ok (.iadd, 1) := by decide +kernel
theorem dX8_comes_122 : decode cX8_comes 122 = .ok (.iastore, 1) := by decide +kernel
theorem dX8_comes_123 : decode cX8_comes 123 = .ok (.aload_n 0, 1) := by decide +kernel
theorem dX8_comes_124 : decode cX8_comes 124 = .ok (.iload_n 2, 1) := by decide +kernel
theorem dX8_comes_125 : decode cX8_comes 125 = .ok (.iconst 1, 1) := by decide +kernel
theorem dX8_comes_126 : decode cX8_comes 126 = .ok (.aload_n 0, 1) := by decide +kernel
theorem dX8_comes_127 : decode cX8_comes 127 = .ok (.iload_n 2, 1) := by decide +kernel
theorem dX8_comes_128 : decode cX8_comes 128 = .ok (.iconst 1, 1) := by decide +kernel
theorem dX8_comes_129 : decode cX8_comes 129 = .ok (.invokevirtual 150, 3) := by decide +kernel
theorem dX8_comes_132 : decode cX8_comes 132 = .ok (.iconst 1, 1) := by decide +kernel
theorem dX8_comes_133 : decode cX8_comes 133 = .ok (.iadd, 1) := by decide +kernel
theorem dX8_comes_134 : decode cX8_comes 134 = .ok (.invokevirtual 162, 3) := by decide +kernel
theorem dX8_comes_137 : decode cX8_comes 137 = .ok (.aload_n 0, 1) := by decide +kernel
theorem dX8_comes_138 : decode cX8_comes 138 = .ok (.getfield 7, 3) := by decide +kernel
theorem dX8_comes_141 : decode cX8_comes 141 = .ok (.sipush 260, 3) := by decide +kernel
theorem dX8_comes_144 : decode cX8_comes 144 = .ok (.iload_n 1, 1) := by decide +kernel
theorem dX8_comes_145 : decode cX8_comes 145 = .ok (.iadd, 1) := by decide +kernel
theorem dX8_comes_146 : decode cX8_comes 146 = .ok (.iconst 0, 1) := by decide +kernel
theorem dX8_comes_147 : decode cX8_comes 147 = .ok (.iastore, 1) := by decide +kernel
theorem dX8_comes_148 : decode cX8_comes 148 = .ok (.return_, 1) := by decide +kernel
set_option maxRecDepth 20000 in
theorem ggX8_leaves_X8_placeOf : GoodIn wsX8_leaves wsX8_placeOf := goodIn_r _ [6, 1, 15, 16, 17, 18, 19, 20, 21, 22, 23, 24, 25, 26, 27, 28, 29, 30, 31, 32, 33, 34] (by decide +kernel) (by decide +kernel)
set_option maxRecDepth 20000 in
theorem gX8_leaves_X8_placeOf : GoodIn wsX8_leaves (wsV RX8 173 RX8 yX8_placeOf wsX8_placeOf) := goodIn_app (goodIn_of _ (by decide +kernel)) ggX8_leaves_X8_placeOf
set_option maxRecDepth 20000 in
theorem ggX8_leaves_X8_of : GoodIn wsX8_leaves wsX8_of := goodIn_r _ [10, 1, 15, 16, 17, 18, 19, 20, 21, 22, 23, 24, 25, 26, 27, 28, 29, 30, 31, 32, 33, 34] (by decide +kernel) (by decide +kernel)
set_option maxRecDepth 20000 in
theorem gX8_leaves_X8_of : GoodIn wsX8_leaves (wsV RX8 150 RX8 yX8_of wsX8_of) := goodIn_app (goodIn_of _ (by decide +kernel)) ggX8_leaves_X8_of
set_option maxRecDepth 20000 in
theorem ggX8_leaves_X8_puts : GoodIn wsX8_leaves wsX8_puts := goodIn_r _ [14, 1, 15, 16, 17, 18, 19, 20, 21, 22, 23, 24, 25, 26, 27, 28, 29, 30, 31, 32, 33, 34] (by decide +kernel) (by decide +kernel)
set_option maxRecDepth 20000 in
theorem gX8_leaves_X8_puts : GoodIn wsX8_leaves (wsV RX8 162 RX8 yX8_puts wsX8_puts) := goodIn_app (goodIn_of _ (by decide +kernel)) ggX8_leaves_X8_puts
theorem dX8_leaves_0 : decode cX8_leaves 0 = .ok (.aload_n 0, 1) := by decide +kernel
theorem dX8_leaves_1 : decode cX8_leaves 1 = .ok (.iload_n 1, 1) := by decide +kernel
theorem dX8_leaves_2 : decode cX8_leaves 2 = .ok (.invokevirtual 173, 3) := by decide +kernel
theorem dX8_leaves_5 : decode cX8_leaves 5 = .ok (.istore_n 3, 1) := by decide +kernel
theorem dX8_leaves_6 : decode cX8_leaves 6 = .ok (.aload_n 0, 1) := by decide +kernel
theorem dX8_leaves_7 : decode cX8_leaves 7 = .ok (.getfield 7, 3) := by decide +kernel
theorem dX8_leaves_10 : decode cX8_leaves 10 = .ok (.iconst 1, 1) := by decide +kernel
theorem dX8_leaves_11 : decode cX8_leaves 11 = .ok (.dup2, 1) := by decide +kernel
theorem dX8_leaves_12 : decode cX8_leaves 12 = .ok (.iaload, 1) := by decide +kernel
theorem dX8_leaves_13 : decode cX8_leaves 13 = .ok (.iconst 1, 1) := by decide +kernel
theorem dX8_leaves_14 : decode cX8_leaves 14 = .ok (.isub, 1) := by decide +kernel
theorem dX8_leaves_15 : decode cX8_leaves 15 = .ok (.iastore, 1) := by decide +kernel
theorem dX8_leaves_16 : decode cX8_leaves 16 = .ok (.iload_n 3, 1) := by decide +kernel
theorem dX8_leaves_17 : decode cX8_leaves 17 = .ok (.istore 4, 2) := by decide +kernel
theorem dX8_leaves_19 : decode cX8_leaves 19 = .ok (.iload 4, 2) := by decide +kernel
theorem dX8_leaves_21 : decode cX8_leaves 21 = .ok (.aload_n 0, 1) := by decide +kernel
theorem dX8_leaves_22 : decode cX8_leaves 22 = .ok (.getfield 7, 3) := by decide +kernel
theorem dX8_leaves_25 : decode cX8_leaves 25 = .ok (.iconst 1, 1) := by decide +kernel
theorem dX8_leaves_26 : decode cX8_leaves 26 = .ok (.iaload, 1) := by decide +kernel
theorem dX8_leaves_27 : decode cX8_leaves 27 = .ok (.if_icmp .ge 33, 3) := by decide +kernel
theorem dX8_leaves_30 : decode cX8_leaves 30 = .ok (.aload_n 0, 1) := by decide +kernel
theorem dX8_leaves_31 : decode cX8_leaves 31 = .ok (.getfield 7, 3) := by decide +kernel
theorem dX8_leaves_34 : decode cX8_leaves 34 = .ok (.sipush 380, 3) := by decide +kernel
theorem dX8_leaves_37 : decode cX8_leaves 37 = .ok (.iload 4, 2) := by decide +kernel
theorem dX8_leaves_39 : decode cX8_leaves 39 = .ok (.iadd, 1) := by decide +kernel
theorem dX8_leaves_40 : decode cX8_leaves 40 = .ok (.aload_n 0, 1) := by decide +kernel
theorem dX8_leaves_41 : decode cX8_leaves 41 = .ok (.getfield 7, 3) := by decide +kernel
theorem dX8_leaves_44 : decode cX8_leaves 44 = .ok (.sipush 380, 3) := by decide +kernel
theorem dX8_leaves_47 : decode cX8_leaves 47 = .ok (.iload 4, 2) := by decide +kernel
theorem dX8_leaves_49 : decode cX8_leaves 49 = .ok (.iadd, 1) := by decide +kernel
theorem dX8_leaves_50 : decode cX8_leaves 50 = .ok (.iconst 1, 1) := by decide +kernel
theorem dX8_leaves_51 : decode cX8_leaves 51 = .ok (.iadd, 1) := by decide +kernel
theorem dX8_leaves_52 : decode cX8_leaves 52 = .ok (.iaload, 1) := by decide +kernel
theorem dX8_leaves_53 : decode cX8_leaves 53 = .ok (.iastore, 1) := by decide +kernel
theorem dX8_leaves_54 : decode cX8_leaves 54 = .ok (.iinc 4 1, 3) := by decide +kernel
theorem dX8_leaves_57 : decode cX8_leaves 57 = .ok (.goto (-38), 3) := by decide +kernel
theorem dX8_leaves_60 : decode cX8_leaves 60 = .ok (.aload_n 0, 1) := by decide +kernel
theorem dX8_leaves_61 : decode cX8_leaves 61 = .ok (.iload_n 2, 1) := by decide +kernel
theorem dX8_leaves_62 : decode cX8_leaves 62 = .ok (.iconst 1, 1) := by decide +kernel
theorem dX8_leaves_63 : decode cX8_leaves 63 = .ok (.aload_n 0, 1) := by decide +kernel
theorem dX8_leaves_64 : decode cX8_leaves 64 = .ok (.iload_n 2, 1) := by decide +kernel
theorem dX8_leaves_65 : decode cX8_leaves 65 = .ok (.iconst 1, 1) := by decide +kernel
theorem dX8_leaves_66 : decode cX8_leaves 66 = .ok (.invokevirtual 150, 3) := by decide +kernel
theorem dX8_leaves_69 : decode cX8_leaves 69 = .ok (.iconst 1, 1) := by decide +kernel
theorem dX8_leaves_70 : decode cX8_leaves 70 = .ok (.isub, 1) := by decide +kernel
theorem dX8_leaves_71 : decode cX8_leaves 71 = .ok (.invokevirtual 162, 3) := by decide +kernel
theorem dX8_leaves_74 : decode cX8_leaves 74 = .ok (.aload_n 0, 1) := by decide +kernel
theorem dX8_leaves_75 : decode cX8_leaves 75 = .ok (.getfield 7, 3) := by decide +kernel
theorem dX8_leaves_78 : decode cX8_leaves 78 = .ok (.sipush 260, 3) := by decide +kernel
theorem dX8_leaves_81 : decode cX8_leaves 81 = .ok (.iload_n 1, 1) := by decide +kernel
theorem dX8_leaves_82 : decode cX8_leaves 82 = .ok (.iadd, 1) := by decide +kernel
theorem dX8_leaves_83 : decode cX8_leaves 83 = .ok (.iconst 3, 1) := by decide +kernel
theorem dX8_leaves_84 : decode cX8_leaves 84 = .ok (.iastore, 1) := by decide +kernel
theorem dX8_leaves_85 : decode cX8_leaves 85 = .ok (.return_, 1) := by decide +kernel
theorem dX8_unwaits_0 : decode cX8_unwaits 0 = .ok (.aload_n 0, 1) := by decide +kernel
theorem dX8_unwaits_1 : decode cX8_unwaits 1 = .ok (.getfield 7, 3) := by decide +kernel
theorem dX8_unwaits_4 : decode cX8_unwaits 4 = .ok (.iconst 2, 1) := by decide +kernel
theorem dX8_unwaits_5 : decode cX8_unwaits 5 = .ok (.dup2, 1) := by decide +kernel
theorem dX8_unwaits_6 : decode cX8_unwaits 6 = .ok (.iaload, 1) := by decide +kernel
theorem dX8_unwaits_7 : decode cX8_unwaits 7 = .ok (.iconst 1, 1) := by decide +kernel
theorem dX8_unwaits_8 : decode cX8_unwaits 8 = .ok (.isub, 1) := by decide +kernel
theorem dX8_unwaits_9 : decode cX8_unwaits 9 = .ok (.iastore, 1) := by decide +kernel
theorem dX8_unwaits_10 : decode cX8_unwaits 10 = .ok (.iload_n 1, 1) := by decide +kernel
theorem dX8_unwaits_11 : decode cX8_unwaits 11 = .ok (.istore_n 2, 1) := by decide +kernel
theorem dX8_unwaits_12 : decode cX8_unwaits 12 = .ok (.iload_n 2, 1) := by decide +kernel
theorem dX8_unwaits_13 : decode cX8_unwaits 13 = .ok (.aload_n 0, 1) := by decide +kernel
theorem dX8_unwaits_14 : decode cX8_unwaits 14 = .ok (.getfield 7, 3) := by decide +kernel
theorem dX8_unwaits_17 : decode cX8_unwaits 17 = .ok (.iconst 2, 1) := by decide +kernel
theorem dX8_unwaits_18 : decode cX8_unwaits 18 = .ok (.iaload, 1) := by decide +kernel
theorem dX8_unwaits_19 : decode cX8_unwaits 19 = .ok (.if_icmp .ge 31, 3) := by decide +kernel
theorem dX8_unwaits_22 : decode cX8_unwaits 22 = .ok (.aload_n 0, 1) := by decide +kernel
theorem dX8_unwaits_23 : decode cX8_unwaits 23 = .ok (.getfield 7, 3) := by decide +kernel
theorem dX8_unwaits_26 : decode cX8_unwaits 26 = .ok (.sipush 500, 3) := by decide +kernel
theorem dX8_unwaits_29 : decode cX8_unwaits 29 = .ok (.iload_n 2, 1) := by decide +kernel
theorem dX8_unwaits_30 : decode cX8_unwaits 30 = .ok (.iadd, 1) := by decide +kernel
theorem dX8_unwaits_31 : decode cX8_unwaits 31 = .ok (.aload_n 0, 1) := by decide +kernel
theorem dX8_unwaits_32 : decode cX8_unwaits 32 = .ok (.getfield 7, 3) := by decide +kernel
theorem dX8_unwaits_35 : decode cX8_unwaits 35 = .ok (.sipush 500, 3) := by decide +kernel
theorem dX8_unwaits_38 : decode cX8_unwaits 38 = .ok (.iload_n 2, 1) := by decide +kernel
theorem dX8_unwaits_39 : decode cX8_unwaits 39 = .ok (.iadd, 1) := by decide +kernel
theorem dX8_unwaits_40 : decode cX8_unwaits 40 = .ok (.iconst 1, 1) := by decide +kernel
theorem dX8_unwaits_41 : decode cX8_unwaits 41 = .ok (.iadd, 1) := by decide +kernel
theorem dX8_unwaits_42 : decode cX8_unwaits 42 = .ok (.iaload, 1) := by decide +kernel
theorem dX8_unwaits_43 : decode cX8_unwaits 43 = .ok (.iastore, 1) := by decide +kernel
theorem dX8_unwaits_44 : decode cX8_unwaits 44 = .ok (.iinc 2 1, 3) := by decide +kernel
theorem dX8_unwaits_47 : decode cX8_unwaits 47 = .ok (.goto (-35), 3) := by decide +kernel
theorem dX8_unwaits_50 : decode cX8_unwaits 50 = .ok (.return_, 1) := by decide +kernel
set_option maxRecDepth 20000 in
theorem ggX8_merges_X8_lastPiece : GoodIn wsX8_merges wsX8_lastPiece := goodIn_r _ [6, 1, 7, 8, 9, 5, 10, 39, 40, 41, 42, 43, 44, 45, 46, 47, 48, 49, 50, 51, 52, 53, 54, 55, 56, 57, 58] (by decide +kernel) (by decide +kernel)
set_option maxRecDepth 20000 in
theorem gX8_merges_X8_lastPiece : GoodIn wsX8_merges (wsV RX8 153 RX8 yX8_lastPiece wsX8_lastPiece) := goodIn_app (goodIn_of _ (by decide +kernel)) ggX8_merges_X8_lastPiece
set_option maxRecDepth 20000 in
theorem ggX8_merges_X8_unwaits : GoodIn wsX8_merges wsX8_unwaits := goodIn_r _ [14, 1, 39, 40, 41, 42, 43, 44, 45, 46, 47, 48, 49, 50, 51, 52, 53, 54, 55, 56, 57, 58] (by decide +kernel) (by decide +kernel)
set_option maxRecDepth 20000 in
theorem gX8_merges_X8_unwaits : GoodIn wsX8_merges (wsV RX8 176 RX8 yX8_unwaits wsX8_unwaits) := goodIn_app (goodIn_of _ (by decide +kernel)) ggX8_merges_X8_unwaits
set_option maxRecDepth 20000 in
theorem ggX8_merges_X8_comes : GoodIn wsX8_merges wsX8_comes := goodIn_r _ [18, 1, 19, 20, 21, 5, 22, 7, 8, 9, 10, 23, 24, 25, 26, 27, 28, 29, 30, 39, 40, 41, 42, 43, 44, 45, 46, 47, 48, 49, 50, 51, 52, 53, 54, 55, 56, 57, 58] (by decide +kernel) (by decide +kernel)
set_option maxRecDepth 20000 in
theorem gX8_merges_X8_comes : GoodIn wsX8_merges (wsV RX8 179 RX8 yX8_comes wsX8_comes) := goodIn_app (goodIn_of _ (by decide +kernel)) ggX8_merges_X8_comes
set_option maxRecDepth 20000 in
theorem ggX8_merges_X8_leaves : GoodIn wsX8_merges wsX8_leaves := goodIn_r _ [34, 1, 35, 36, 37, 5, 38, 7, 8, 9, 10, 27, 28, 29, 30, 39, 40, 41, 42, 43, 44, 45, 46, 47, 48, 49, 50, 51, 52, 53, 54, 55, 56, 57, 58] (by decide +kernel) (by decide +kernel)
set_option maxRecDepth 20000 in
theorem gX8_merges_X8_leaves : GoodIn wsX8_merges (wsV RX8 183 RX8 yX8_leaves wsX8_leaves) := goodIn_app (goodIn_of _ (by decide +kernel)) ggX8_merges_X8_leaves
theorem dX8_merges_0 : decode cX8_merges 0 = .ok (.aload_n 0, 1) := by decide +kernel
theorem dX8_merges_1 : decode cX8_merges 1 = .ok (.getfield 7, 3) := by decide +kernel
theorem dX8_merges_4 : decode cX8_merges 4 = .ok (.sipush 500, 3) := by decide +kernel
theorem dX8_merges_7 : decode cX8_merges 7 = .ok (.iload_n 1, 1) := by decide +kernel
theorem dX8_merges_8 : decode cX8_merges 8 = .ok (.iadd, 1) := by decide +kernel
theorem dX8_merges_9 : decode cX8_merges 9 = .ok (.iaload, 1) := by decide +kernel
theorem dX8_merges_10 : decode cX8_merges 10 = .ok (.istore_n 2, 1) := by decide +kernel
theorem dX8_merges_11 : decode cX8_merges 11 = .ok (.aload_n 0, 1) := by decide +kernel
theorem dX8_merges_12 : decode cX8_merges 12 = .ok (.aload_n 0, 1) := by decide +kernel
theorem dX8_merges_13 : decode cX8_merges 13 = .ok (.getfield 7, 3) := by decide +kernel
theorem dX8_merges_16 : decode cX8_merges 16 = .ok (.bipush 20, 2) := by decide +kernel
theorem dX8_merges_18 : decode cX8_merges 18 = .ok (.iload_n 2, 1) := by decide +kernel
theorem dX8_merges_19 : decode cX8_merges 19 = .ok (.iadd, 1) := by decide +kernel
theorem dX8_merges_20 : decode cX8_merges 20 = .ok (.iaload, 1) := by decide +kernel
theorem dX8_merges_21 : decode cX8_merges 21 = .ok (.invokevirtual 153, 3) := by decide +kernel
theorem dX8_merges_24 : decode cX8_merges 24 = .ok (.istore_n 3, 1) := by decide +kernel
theorem dX8_merges_25 : decode cX8_merges 25 = .ok (.aload_n 0, 1) := by decide +kernel
theorem dX8_merges_26 : decode cX8_merges 26 = .ok (.iload_n 1, 1) := by decide +kernel
theorem dX8_merges_27 : decode cX8_merges 27 = .ok (.invokevirtual 176, 3) := by decide +kernel
theorem dX8_merges_30 : decode cX8_merges 30 = .ok (.aload_n 0, 1) := by decide +kernel
theorem dX8_merges_31 : decode cX8_merges 31 = .ok (.getfield 7, 3) := by decide +kernel
theorem dX8_merges_34 : decode cX8_merges 34 = .ok (.sipush 260, 3) := by decide +kernel
theorem dX8_merges_37 : decode cX8_merges 37 = .ok (.iload_n 2, 1) := by decide +kernel
theorem dX8_merges_38 : decode cX8_merges 38 = .ok (.iadd, 1) := by decide +kernel
theorem dX8_merges_39 : decode cX8_merges 39 = .ok (.iaload, 1) := by decide +kernel
theorem dX8_merges_40 : decode cX8_merges 40 = .ok (.iconst 1, 1) := by decide +kernel
theorem dX8_merges_41 : decode cX8_merges 41 = .ok (.if_icmp .ne 12, 3) := by decide +kernel
theorem dX8_merges_44 : decode cX8_merges 44 = .ok (.aload_n 0, 1) := by decide +kernel
theorem dX8_merges_45 : decode cX8_merges 45 = .ok (.iload_n 2, 1) := by decide +kernel
theorem dX8_merges_46 : decode cX8_merges 46 = .ok (.iload_n 3, 1) := by decide +kernel
theorem dX8_merges_47 : decode cX8_merges 47 = .ok (.invokevirtual 179, 3) := by decide +kernel
theorem dX8_merges_50 : decode cX8_merges 50 = .ok (.goto 9, 3) := by decide +kernel
theorem dX8_merges_53 : decode cX8_merges 53 = .ok (.aload_n 0, 1) := by decide +kernel
theorem dX8_merges_54 : decode cX8_merges 54 = .ok (.iload_n 2, 1) := by decide +kernel
theorem dX8_merges_55 : decode cX8_merges 55 = .ok (.iload_n 3, 1) := by decide +kernel
theorem dX8_merges_56 : decode cX8_merges 56 = .ok (.invokevirtual 183, 3) := by decide +kernel
theorem dX8_merges_59 : decode cX8_merges 59 = .ok (.aload_n 0, 1) := by decide +kernel
theorem dX8_merges_60 : decode cX8_merges 60 = .ok (.getfield 7, 3) := by decide +kernel
theorem dX8_merges_63 : decode cX8_merges 63 = .ok (.iconst 3, 1) := by decide +kernel
theorem dX8_merges_64 : decode cX8_merges 64 = .ok (.iaload, 1) := by decide +kernel
theorem dX8_merges_65 : decode cX8_merges 65 = .ok (.iload_n 3, 1) := by decide +kernel
theorem dX8_merges_66 : decode cX8_merges 66 = .ok (.isub, 1) := by decide +kernel
theorem dX8_merges_67 : decode cX8_merges 67 = .ok (.ireturn, 1) := by decide +kernel
set_option maxRecDepth 20000 in
theorem ggX8_forces_X8_merges : GoodIn wsX8_forces wsX8_merges := goodIn_r _ [6, 1, 7, 8, 9, 5, 10, 11, 12, 13, 14, 15, 16, 17, 18, 19, 20, 21, 22, 23, 24, 25, 26, 27, 28, 29, 30, 31, 32, 33, 34, 35, 36, 37, 38, 39, 40, 41, 42, 43, 44, 45, 46, 47, 48, 49, 50, 51, 52, 53, 54, 55, 56, 57, 58, 59, 60, 61, 62] (by decide +kernel) (by decide +kernel)
set_option maxRecDepth 20000 in
theorem gX8_forces_X8_merges : GoodIn wsX8_forces (wsV RX8 186 RX8 yX8_merges wsX8_merges) := goodIn_app (goodIn_of _ (by decide +kernel)) ggX8_forces_X8_merges
theorem dX8_forces_0 : decode cX8_forces 0 = .ok (.aload_n 0, 1) := by decide +kernel
theorem dX8_forces_1 : decode cX8_forces 1 = .ok (.getfield 7, 3) := by decide +kernel
theorem dX8_forces_4 : decode cX8_forces 4 = .ok (.iconst 2, 1) := by decide +kernel
theorem dX8_forces_5 : decode cX8_forces 5 = .ok (.iaload, 1) := by decide +kernel
theorem dX8_forces_6 : decode cX8_forces 6 = .ok (.aload_n 0, 1) := by decide +kernel
theorem dX8_forces_7 : decode cX8_forces 7 = .ok (.getfield 7, 3) := by decide +kernel
theorem dX8_forces_10 : decode cX8_forces 10 = .ok (.bipush 7, 2) := by decide +kernel
theorem dX8_forces_12 : decode cX8_forces 12 = .ok (.iaload, 1) := by decide +kernel
theorem dX8_forces_13 : decode cX8_forces 13 = .ok (.if_icmp .le 21, 3) := by decide +kernel
theorem dX8_forces_16 : decode cX8_forces 16 = .ok (.aload_n 0, 1) := by decide +kernel
theorem dX8_forces_17 : decode cX8_forces 17 = .ok (.getfield 7, 3) := by decide +kernel
theorem dX8_forces_20 : decode cX8_forces 20 = .ok (.bipush 8, 2) := by decide +kernel
theorem dX8_forces_22 : decode cX8_forces 22 = .ok (.dup2, 1) := by decide +kernel
theorem dX8_forces_23 : decode cX8_forces 23 = .ok (.iaload, 1) := by decide +kernel
theorem dX8_forces_24 : decode cX8_forces 24 = .ok (.aload_n 0, 1) := by decide +kernel
theorem dX8_forces_25 : decode cX8_forces 25 = .ok (.iconst 0, 1) := by decide +kernel
theorem dX8_forces_26 : decode cX8_forces 26 = .ok (.invokevirtual 186, 3) := by decide +kernel
theorem dX8_forces_29 : decode cX8_forces 29 = .ok (.iadd, 1) := by decide +kernel
theorem dX8_forces_30 : decode cX8_forces 30 = .ok (.iastore, 1) := by decide +kernel
theorem dX8_forces_31 : decode cX8_forces 31 = .ok (.goto (-31), 3) := by decide +kernel
theorem dX8_forces_34 : decode cX8_forces 34 = .ok (.return_, 1) := by decide +kernel
theorem dX8_waits_0 : decode cX8_waits 0 = .ok (.aload_n 0, 1) := by decide +kernel
theorem dX8_waits_1 : decode cX8_waits 1 = .ok (.getfield 7, 3) := by decide +kernel
theorem dX8_waits_4 : decode cX8_waits 4 = .ok (.sipush 500, 3) := by decide +kernel
theorem dX8_waits_7 : decode cX8_waits 7 = .ok (.aload_n 0, 1) := by decide +kernel
theorem dX8_waits_8 : decode cX8_waits 8 = .ok (.getfield 7, 3) := by decide +kernel
theorem dX8_waits_11 : decode cX8_waits 11 = .ok (.iconst 2, 1) := by decide +kernel
theorem dX8_waits_12 : decode cX8_waits 12 = .ok (.iaload, 1) := by decide +kernel
theorem dX8_waits_13 : decode cX8_waits 13 = .ok (.iadd, 1) := by decide +kernel
theorem dX8_waits_14 : decode cX8_waits 14 = .ok (.iload_n 1, 1) := by decide +kernel
theorem dX8_waits_15 : decode cX8_waits 15 = .ok (.iastore, 1) := by decide +kernel
theorem dX8_waits_16 : decode cX8_waits 16 = .ok (.aload_n 0, 1) := by decide +kernel
theorem dX8_waits_17 : decode cX8_waits 17 = .ok (.getfield 7, 3) := by decide +kernel
theorem dX8_waits_20 : decode cX8_waits 20 = .ok (.iconst 2, 1) := by decide +kernel
theorem dX8_waits_21 : decode cX8_waits 21 = .ok (.dup2, 1) := by decide +kernel
theorem dX8_waits_22 : decode cX8_waits 22 = .ok (.iaload, 1) := by decide +kernel
theorem dX8_waits_23 : decode cX8_waits 23 = .ok (.iconst 1, 1) := by decide +kernel
theorem dX8_waits_24 : decode cX8_waits 24 = .ok (.iadd, 1) := by decide +kernel
theorem dX8_waits_25 : decode cX8_waits 25 = .ok (.iastore, 1) := by decide +kernel
theorem dX8_waits_26 : decode cX8_waits 26 = .ok (.return_, 1) := by decide +kernel
set_option maxRecDepth 20000 in
theorem ggX8_mergeAll_X8_keeps : GoodIn wsX8_mergeAll wsX8_keeps := goodIn_r _ [7, 8, 9, 2, 50, 51, 52, 53, 54, 55, 56, 57, 58, 59, 60, 61, 62, 63, 64, 65, 66, 67, 68, 69] (by decide +kernel) (by decide +kernel)
set_option maxRecDepth 20000 in
theorem gX8_mergeAll_X8_keeps : GoodIn wsX8_mergeAll (wsV RX8 147 RX8 yX8_keeps wsX8_keeps) := goodIn_app (goodIn_of _ (by decide +kernel)) ggX8_mergeAll_X8_keeps
set_option maxRecDepth 20000 in
theorem ggX8_mergeAll_X8_merges : GoodIn wsX8_mergeAll wsX8_merges := goodIn_r _ [13, 2, 14, 15, 16, 6, 17, 18, 19, 20, 21, 22, 23, 24, 25, 26, 27, 28, 29, 30, 31, 32, 33, 34, 35, 36, 37, 38, 39, 40, 41, 42, 43, 44, 45, 46, 47, 48, 49, 50, 51, 52, 53, 54, 55, 56, 57, 58, 59, 60, 61, 62, 63, 64, 65, 66, 67, 68, 69] (by decide +kernel) (by decide +kernel)
set_option maxRecDepth 20000 in
theorem gX8_mergeAll_X8_merges : GoodIn wsX8_mergeAll (wsV RX8 186 RX8 yX8_merges wsX8_merges) := goodIn_app (goodIn_of _ (by decide +kernel)) ggX8_mergeAll_X8_merges
theorem dX8_mergeAll_0 : decode cX8_mergeAll 0 = .ok (.aload_n 0, 1) := by decide +kernel
theorem dX8_mergeAll_1 : decode cX8_mergeAll 1 = .ok (.iconst 0, 1) := by decide +kernel
theorem dX8_mergeAll_2 : decode cX8_mergeAll 2 = .ok (.putfield 45, 3) := by decide +kernel
theorem dX8_mergeAll_5 : decode cX8_mergeAll 5 = .ok (.aload_n 0, 1) := by decide +kernel
theorem dX8_mergeAll_6 : decode cX8_mergeAll 6 = .ok (.invokevirtual 147, 3) := by decide +kernel
theorem dX8_mergeAll_9 : decode cX8_mergeAll 9 = .ok (.iconst 0, 1) := by decide +kernel
theorem dX8_mergeAll_10 : decode cX8_mergeAll 10 = .ok (.istore_n 1, 1) := by decide +kernel
theorem dX8_mergeAll_11 : decode cX8_mergeAll 11 = .ok (.aload_n 0, 1) := by decide +kernel
theorem dX8_mergeAll_12 : decode cX8_mergeAll 12 = .ok (.getfield 7, 3) := by decide +kernel
theorem dX8_mergeAll_15 : decode cX8_mergeAll 15 = .ok (.iconst 2, 1) := by decide +kernel
theorem dX8_mergeAll_16 : decode cX8_mergeAll 16 = .ok (.iaload, 1) := by decide +kernel
theorem dX8_mergeAll_17 : decode cX8_mergeAll 17 = .ok (.ifCond .le 14, 3) := by decide +kernel
theorem dX8_mergeAll_20 : decode cX8_mergeAll 20 = .ok (.iload_n 1, 1) := by decide +kernel
theorem dX8_mergeAll_21 : decode cX8_mergeAll 21 = .ok (.aload_n 0, 1) := by decide +kernel
theorem dX8_mergeAll_22 : decode cX8_mergeAll 22 = .ok (.iconst 0, 1) := by decide +kernel
theorem dX8_mergeAll_23 : decode cX8_mergeAll 23 = .ok (.invokevirtual 186, 3) := by decide +kernel
theorem dX8_mergeAll_26 : decode cX8_mergeAll 26 = .ok (.iadd, 1) := by decide +kernel
theorem dX8_mergeAll_27 : decode cX8_mergeAll 27 = .ok (.istore_n 1, 1) := by decide +kernel
theorem dX8_mergeAll_28 : decode cX8_mergeAll 28 = .ok (.goto (-17), 3) := by decide +kernel
theorem dX8_mergeAll_31 : decode cX8_mergeAll 31 = .ok (.aload_n 0, 1) := by decide +kernel
theorem dX8_mergeAll_32 : decode cX8_mergeAll 32 = .ok (.getfield 7, 3) := by decide +kernel
theorem dX8_mergeAll_35 : decode cX8_mergeAll 35 = .ok (.bipush 8, 2) := by decide +kernel
theorem dX8_mergeAll_37 : decode cX8_mergeAll 37 = .ok (.dup2, 1) := by decide +kernel
theorem dX8_mergeAll_38 : decode cX8_mergeAll 38 = .ok (.iaload, 1) := by decide +kernel
theorem dX8_mergeAll_39 : decode cX8_mergeAll 39 = .ok (.iload_n 1, 1) := by decide +kernel
theorem dX8_mergeAll_40 : decode cX8_mergeAll 40 = .ok (.iadd, 1) := by decide +kernel
theorem dX8_mergeAll_41 : decode cX8_mergeAll 41 = .ok (.iastore, 1) := by decide +kernel
theorem dX8_mergeAll_42 : decode cX8_mergeAll 42 = .ok (.iload_n 1, 1) := by decide +kernel
theorem dX8_mergeAll_43 : decode cX8_mergeAll 43 = .ok (.ireturn, 1) := by decide +kernel
set_option maxRecDepth 20000 in
theorem ggX8_insert_X8_isIn : GoodIn wsX8_insert wsX8_isIn := goodIn_r _ [6] (by decide +kernel) (by decide +kernel)
set_option maxRecDepth 20000 in
theorem gX8_insert_X8_isIn : GoodIn wsX8_insert (va_wsS RX8 57 yX8_isIn wsX8_isIn) := goodIn_app (goodIn_of _ (by decide +kernel)) ggX8_insert_X8_isIn
set_option maxRecDepth 20000 in
theorem ggX8_insert_X8_keeps : GoodIn wsX8_insert wsX8_keeps := goodIn_r _ [10, 11, 12, 1, 61, 62, 63, 64, 65, 66, 67, 68, 69, 70, 71, 72, 73, 74, 75, 76, 77, 78, 79, 80] (by decide +kernel) (by decide +kernel)
set_option maxRecDepth 20000 in
theorem gX8_insert_X8_keeps : GoodIn wsX8_insert (wsV RX8 147 RX8 yX8_keeps wsX8_keeps) := goodIn_app (goodIn_of _ (by decide +kernel)) ggX8_insert_X8_keeps
set_option maxRecDepth 20000 in
theorem ggX8_insert_X8_waits : GoodIn wsX8_insert wsX8_waits := goodIn_r _ [16, 1, 61, 62, 63, 64, 65, 66, 67, 68, 69, 70, 71, 72, 73, 74, 75, 76, 77, 78, 79, 80] (by decide +kernel) (by decide +kernel)
set_option maxRecDepth 20000 in
theorem gX8_insert_X8_waits : GoodIn wsX8_insert (wsV RX8 189 RX8 yX8_waits wsX8_waits) := goodIn_app (goodIn_of _ (by decide +kernel)) ggX8_insert_X8_waits
set_option maxRecDepth 20000 in
theorem ggX8_insert_X8_forces : GoodIn wsX8_insert wsX8_forces := goodIn_r _ [20, 1, 21, 22, 23, 5, 24, 25, 26, 27, 28, 29, 30, 31, 32, 33, 34, 35, 36, 37, 38, 39, 40, 41, 42, 43, 44, 45, 46, 47, 48, 49, 50, 51, 52, 53, 54, 55, 56, 57, 58, 59, 60, 61, 62, 63, 64, 65, 66, 67, 68, 69, 70, 71, 72, 73, 74, 75, 76, 77, 78, 79, 80] (by decide +kernel) (by decide +kernel)
set_option maxRecDepth 20000 in
theorem gX8_insert_X8_forces : GoodIn wsX8_insert (wsV RX8 192 RX8 yX8_forces wsX8_forces) := goodIn_app (goodIn_of _ (by decide +kernel)) ggX8_insert_X8_forces
theorem dX8_insert_0 : decode cX8_insert 0 = .ok (.aload_n 0, 1) := by decide +kernel
theorem dX8_insert_1 : decode cX8_insert 1 = .ok (.iload_n 1, 1) := by decide +kernel
theorem dX8_insert_2 : decode cX8_insert 2 = .ok (.iconst 0, 1) := by decide +kernel
theorem dX8_insert_3 : decode cX8_insert 3 = .ok (.sipush 9999, 3) := by decide +kernel
theorem dX8_insert_6 : decode cX8_insert 6 = .ok (.invokestatic 57, 3) := by decide +kernel
theorem dX8_insert_9 : decode cX8_insert 9 = .ok (.ifCond .eq 14, 3) := by decide +kernel
theorem dX8_insert_12 : decode cX8_insert 12 = .ok (.iload_n 2, 1) := by decide +kernel
theorem dX8_insert_13 : decode cX8_insert 13 = .ok (.bipush (-99), 2) := by decide +kernel
theorem dX8_insert_15 : decode cX8_insert 15 = .ok (.bipush 99, 2) := by decide +kernel
theorem dX8_insert_17 : decode cX8_insert 17 = .ok (.invokestatic 57, 3) := by decide +kernel
theorem dX8_insert_20 : decode cX8_insert 20 = .ok (.ifCond .ne 7, 3) := by decide +kernel
theorem dX8_insert_23 : decode cX8_insert 23 = .ok (.iconst 1, 1) := by decide +kernel
theorem dX8_insert_24 : decode cX8_insert 24 = .ok (.goto 19, 3) := by decide +kernel
theorem dX8_insert_27 : decode cX8_insert 27 = .ok (.aload_n 0, 1) := by decide +kernel
theorem dX8_insert_28 : decode cX8_insert 28 = .ok (.getfield 7, 3) := by decide +kernel
theorem dX8_insert_31 : decode cX8_insert 31 = .ok (.iconst 0, 1) := by decide +kernel
theorem dX8_insert_32 : decode cX8_insert 32 = .ok (.iaload, 1) := by decide +kernel
theorem dX8_insert_33 : decode cX8_insert 33 = .ok (.bipush 120, 2) := by decide +kernel
theorem dX8_insert_35 : decode cX8_insert 35 = .ok (.if_icmp .ne 7, 3) := by decide +kernel
theorem dX8_insert_38 : decode cX8_insert 38 = .ok (.iconst 2, 1) := by decide +kernel
theorem dX8_insert_39 : decode cX8_insert 39 = .ok (.goto 4, 3) := by decide +kernel
theorem dX8_insert_42 : decode cX8_insert 42 = .ok (.iconst 0, 1) := by decide +kernel
theorem dX8_insert_43 : decode cX8_insert 43 = .ok (.putfield 45, 3) := by decide +kernel
theorem dX8_insert_46 : decode cX8_insert 46 = .ok (.aload_n 0, 1) := by decide +kernel
theorem dX8_insert_47 : decode cX8_insert 47 = .ok (.getfield 45, 3) := by decide +kernel
theorem dX8_insert_50 : decode cX8_insert 50 = .ok (.ifCond .le 5, 3) := by decide +kernel
theorem dX8_insert_53 : decode cX8_insert 53 = .ok (.iconst 0, 1) := by decide +kernel
theorem dX8_insert_54 : decode cX8_insert 54 = .ok (.ireturn, 1) := by decide +kernel
theorem dX8_insert_55 : decode cX8_insert 55 = .ok (.aload_n 0, 1) := by decide +kernel
theorem dX8_insert_56 : decode cX8_insert 56 = .ok (.invokevirtual 147, 3) := by decide +kernel
theorem dX8_insert_59 : decode cX8_insert 59 = .ok (.aload_n 0, 1) := by decide +kernel
theorem dX8_insert_60 : decode cX8_insert 60 = .ok (.getfield 7, 3) := by decide +kernel
theorem dX8_insert_63 : decode cX8_insert 63 = .ok (.iconst 0, 1) := by decide +kernel
theorem dX8_insert_64 : decode cX8_insert 64 = .ok (.iaload, 1) := by decide +kernel
theorem dX8_insert_65 : decode cX8_insert 65 = .ok (.istore_n 3, 1) := by decide +kernel
theorem dX8_insert_66 : decode cX8_insert 66 = .ok (.aload_n 0, 1) := by decide +kernel
theorem dX8_insert_67 : decode cX8_insert 67 = .ok (.getfield 7, 3) := by decide +kernel
theorem dX8_insert_70 : decode cX8_insert 70 = .ok (.bipush 20, 2) := by decide +kernel
theorem dX8_insert_72 : decode cX8_insert 72 = .ok (.iload_n 3, 1) := by decide +kernel
theorem dX8_insert_73 : decode cX8_insert 73 = .ok (.iadd, 1) := by decide +kernel
theorem dX8_insert_74 : decode cX8_insert 74 = .ok (.iload_n 1, 1) := by decide +kernel
theorem dX8_insert_75 : decode cX8_insert 75 = .ok (.iastore, 1) := by decide +kernel
theorem dX8_insert_76 : decode cX8_insert 76 = .ok (.aload_n 0, 1) := by decide +kernel
theorem dX8_insert_77 : decode cX8_insert 77 = .ok (.getfield 7, 3) := by decide +kernel
theorem dX8_insert_80 : decode cX8_insert 80 = .ok (.sipush 140, 3) := by decide +kernel
theorem dX8_insert_83 : decode cX8_insert 83 = .ok (.iload_n 3, 1) := by decide +kernel
theorem dX8_insert_84 : decode cX8_insert 84 = .ok (.iadd, 1) := by decide +kernel
theorem dX8_insert_85 : decode cX8_insert 85 = .ok (.iload_n 2, 1) := by decide +kernel
theorem dX8_insert_86 : decode cX8_insert 86 = .ok (.iastore, 1) := by decide +kernel
theorem dX8_insert_87 : decode cX8_insert 87 = .ok (.aload_n 0, 1) := by decide +kernel
theorem dX8_insert_88 : decode cX8_insert 88 = .ok (.getfield 7, 3) := by decide +kernel
theorem dX8_insert_91 : decode cX8_insert 91 = .ok (.sipush 260, 3) := by decide +kernel
theorem dX8_insert_94 : decode cX8_insert 94 = .ok (.iload_n 3, 1) := by decide +kernel
theorem dX8_insert_95 : decode cX8_insert 95 = .ok (.iadd, 1) := by decide +kernel
theorem dX8_insert_96 : decode cX8_insert 96 = .ok (.iconst 1, 1) := by decide +kernel
theorem dX8_insert_97 : decode cX8_insert 97 = .ok (.iastore, 1) := by decide +kernel
theorem dX8_insert_98 : decode cX8_insert 98 = .ok (.aload_n 0, 1) := by decide +kernel
theorem dX8_insert_99 : decode cX8_insert 99 = .ok (.getfield 7, 3) := by decide +kernel
theorem dX8_insert_102 : decode cX8_insert 102 = .ok (.iconst 0, 1) := by decide +kernel
theorem dX8_insert_103 : decode cX8_insert 103 = .ok (.dup2, 1) := by decide +kernel
theorem dX8_insert_104 : decode cX8_insert 104 = .ok (.iaload, 1) := by decide +kernel
theorem dX8_insert_105 : decode cX8_insert 105 = .ok (.iconst 1, 1) := by decide +kernel
theorem dX8_insert_106 : decode cX8_insert 106 = .ok (.iadd, 1) := by decide +kernel
theorem dX8_insert_107 : decode cX8_insert 107 = .ok (.iastore, 1) := by decide +kernel
theorem dX8_insert_108 : decode cX8_insert 108 = .ok (.aload_n 0, 1) := by decide +kernel
theorem dX8_insert_109 : decode cX8_insert 109 = .ok (.iload_n 3, 1) := by decide +kernel
theorem dX8_insert_110 : decode cX8_insert 110 = .ok (.invokevirtual 189, 3) := by decide +kernel
theorem dX8_insert_113 : decode cX8_insert 113 = .ok (.aload_n 0, 1) := by decide +kernel
theorem dX8_insert_114 : decode cX8_insert 114 = .ok (.invokevirtual 192, 3) := by decide +kernel
theorem dX8_insert_117 : decode cX8_insert 117 = .ok (.iload_n 3, 1) := by decide +kernel
theorem dX8_insert_118 : decode cX8_insert 118 = .ok (.ireturn, 1) := by decide +kernel
set_option maxRecDepth 20000 in
theorem ggX8_isRow_X8_isIn : GoodIn wsX8_isRow wsX8_isIn := goodIn_r _ [5] (by decide +kernel) (by decide +kernel)
set_option maxRecDepth 20000 in
theorem gX8_isRow_X8_isIn : GoodIn wsX8_isRow (va_wsS RX8 57 yX8_isIn wsX8_isIn) := goodIn_app (goodIn_of _ (by decide +kernel)) ggX8_isRow_X8_isIn
theorem dX8_isRow_0 : decode cX8_isRow 0 = .ok (.iload_n 1, 1) := by decide +kernel
theorem dX8_isRow_1 : decode cX8_isRow 1 = .ok (.iconst 0, 1) := by decide +kernel
theorem dX8_isRow_2 : decode cX8_isRow 2 = .ok (.aload_n 0, 1) := by decide +kernel
theorem dX8_isRow_3 : decode cX8_isRow 3 = .ok (.getfield 7, 3) := by decide +kernel
theorem dX8_isRow_6 : decode cX8_isRow 6 = .ok (.iconst 0, 1) := by decide +kernel
theorem dX8_isRow_7 : decode cX8_isRow 7 = .ok (.iaload, 1) := by decide +kernel
theorem dX8_isRow_8 : decode cX8_isRow 8 = .ok (.iconst 1, 1) := by decide +kernel
theorem dX8_isRow_9 : decode cX8_isRow 9 = .ok (.isub, 1) := by decide +kernel
theorem dX8_isRow_10 : decode cX8_isRow 10 = .ok (.invokestatic 57, 3) := by decide +kernel
theorem dX8_isRow_13 : decode cX8_isRow 13 = .ok (.ireturn, 1) := by decide +kernel
theorem dX8_lives_0 : decode cX8_lives 0 = .ok (.aload_n 0, 1) := by decide +kernel
theorem dX8_lives_1 : decode cX8_lives 1 = .ok (.getfield 7, 3) := by decide +kernel
theorem dX8_lives_4 : decode cX8_lives 4 = .ok (.sipush 260, 3) := by decide +kernel
theorem dX8_lives_7 : decode cX8_lives 7 = .ok (.iload_n 1, 1) := by decide +kernel
theorem dX8_lives_8 : decode cX8_lives 8 = .ok (.iadd, 1) := by decide +kernel
theorem dX8_lives_9 : decode cX8_lives 9 = .ok (.iaload, 1) := by decide +kernel
theorem dX8_lives_10 : decode cX8_lives 10 = .ok (.iconst 1, 1) := by decide +kernel
theorem dX8_lives_11 : decode cX8_lives 11 = .ok (.if_icmp .gt 7, 3) := by decide +kernel
theorem dX8_lives_14 : decode cX8_lives 14 = .ok (.iconst 1, 1) := by decide +kernel
theorem dX8_lives_15 : decode cX8_lives 15 = .ok (.goto 4, 3) := by decide +kernel
theorem dX8_lives_18 : decode cX8_lives 18 = .ok (.iconst 0, 1) := by decide +kernel
theorem dX8_lives_19 : decode cX8_lives 19 = .ok (.ireturn, 1) := by decide +kernel
set_option maxRecDepth 20000 in
theorem ggX8_delete_X8_isRow : GoodIn wsX8_delete wsX8_isRow := goodIn_r _ [7, 2, 8, 9, 6, 10, 69, 70, 71, 72, 73, 74, 75, 76, 77, 78, 79, 80, 81, 82, 83, 84, 85, 86, 87, 88] (by decide +kernel) (by decide +kernel)
set_option maxRecDepth 20000 in
theorem gX8_delete_X8_isRow : GoodIn wsX8_delete (wsV RX8 195 RX8 yX8_isRow wsX8_isRow) := goodIn_app (goodIn_of _ (by decide +kernel)) ggX8_delete_X8_isRow
set_option maxRecDepth 20000 in
theorem ggX8_delete_X8_lives : GoodIn wsX8_delete wsX8_lives := goodIn_r _ [14, 2, 69, 70, 71, 72, 73, 74, 75, 76, 77, 78, 79, 80, 81, 82, 83, 84, 85, 86, 87, 88] (by decide +kernel) (by decide +kernel)
set_option maxRecDepth 20000 in
theorem gX8_delete_X8_lives : GoodIn wsX8_delete (wsV RX8 198 RX8 yX8_lives wsX8_lives) := goodIn_app (goodIn_of _ (by decide +kernel)) ggX8_delete_X8_lives
set_option maxRecDepth 20000 in
theorem ggX8_delete_X8_keeps : GoodIn wsX8_delete wsX8_keeps := goodIn_r _ [18, 19, 20, 2, 69, 70, 71, 72, 73, 74, 75, 76, 77, 78, 79, 80, 81, 82, 83, 84, 85, 86, 87, 88] (by decide +kernel) (by decide +kernel)
set_option maxRecDepth 20000 in
theorem gX8_delete_X8_keeps : GoodIn wsX8_delete (wsV RX8 147 RX8 yX8_keeps wsX8_keeps) := goodIn_app (goodIn_of _ (by decide +kernel)) ggX8_delete_X8_keeps
set_option maxRecDepth 20000 in
theorem ggX8_delete_X8_waits : GoodIn wsX8_delete wsX8_waits := goodIn_r _ [24, 2, 69, 70, 71, 72, 73, 74, 75, 76, 77, 78, 79, 80, 81, 82, 83, 84, 85, 86, 87, 88] (by decide +kernel) (by decide +kernel)
set_option maxRecDepth 20000 in
theorem gX8_delete_X8_waits : GoodIn wsX8_delete (wsV RX8 189 RX8 yX8_waits wsX8_waits) := goodIn_app (goodIn_of _ (by decide +kernel)) ggX8_delete_X8_waits
set_option maxRecDepth 20000 in
theorem ggX8_delete_X8_forces : GoodIn wsX8_delete wsX8_forces := goodIn_r _ [28, 2, 29, 30, 31, 6, 32, 33, 34, 35, 36, 37, 38, 39, 40, 41, 42, 43, 44, 45, 46, 47, 48, 49, 50, 51, 52, 53, 54, 55, 56, 57, 58, 59, 60, 61, 62, 63, 64, 65, 66, 67, 68, 69, 70, 71, 72, 73, 74, 75, 76, 77, 78, 79, 80, 81, 82, 83, 84, 85, 86, 87, 88] (by decide +kernel) (by decide +kernel)
set_option maxRecDepth 20000 in
theorem gX8_delete_X8_forces : GoodIn wsX8_delete (wsV RX8 192 RX8 yX8_forces wsX8_forces) := goodIn_app (goodIn_of _ (by decide +kernel)) ggX8_delete_X8_forces
set_option maxRecDepth 20000 in
theorem ggX8_delete_X8_unwaits : GoodIn wsX8_delete wsX8_unwaits := goodIn_r _ [44, 2, 69, 70, 71, 72, 73, 74, 75, 76, 77, 78, 79, 80, 81, 82, 83, 84, 85, 86, 87, 88] (by decide +kernel) (by decide +kernel)
set_option maxRecDepth 20000 in
theorem gX8_delete_X8_unwaits : GoodIn wsX8_delete (wsV RX8 176 RX8 yX8_unwaits wsX8_unwaits) := goodIn_app (goodIn_of _ (by decide +kernel)) ggX8_delete_X8_unwaits
theorem dX8_delete_0 : decode cX8_delete 0 = .ok (.aload_n 0, 1) := by decide +kernel
theorem dX8_delete_1 : decode cX8_delete 1 = .ok (.aload_n 0, 1) := by decide +kernel
theorem dX8_delete_2 : decode cX8_delete 2 = .ok (.iload_n 1, 1) := by decide +kernel
theorem dX8_delete_3 : decode cX8_delete 3 = .ok (.invokevirtual 195, 3) := by decide +kernel
theorem dX8_delete_6 : decode cX8_delete 6 = .ok (.ifCond .ne 7, 3) := by decide +kernel
theorem dX8_delete_9 : decode cX8_delete 9 = .ok (.iconst 1, 1) := by decide +kernel
theorem dX8_delete_10 : decode cX8_delete 10 = .ok (.goto 16, 3) := by decide +kernel
theorem dX8_delete_13 : decode cX8_delete 13 = .ok (.aload_n 0, 1) := by decide +kernel
theorem dX8_delete_14 : decode cX8_delete 14 = .ok (.iload_n 1, 1) := by decide +kernel
theorem dX8_delete_15 : decode cX8_delete 15 = .ok (.invokevirtual 198, 3) := by decide +kernel
theorem dX8_delete_18 : decode cX8_delete 18 = .ok (.ifCond .eq 7, 3) := by decide +kernel
theorem dX8_delete_21 : decode cX8_delete 21 = .ok (.iconst 0, 1) := by decide +kernel
theorem dX8_delete_22 : decode cX8_delete 22 = .ok (.goto 4, 3) := by decide +kernel
theorem dX8_delete_25 : decode cX8_delete 25 = .ok (.iconst 2, 1) := by decide +kernel
theorem dX8_delete_26 : decode cX8_delete 26 = .ok (.putfield 45, 3) := by decide +kernel
theorem dX8_delete_29 : decode cX8_delete 29 = .ok (.aload_n 0, 1) := by decide +kernel
theorem dX8_delete_30 : decode cX8_delete 30 = .ok (.getfield 45, 3) := by decide +kernel
theorem dX8_delete_33 : decode cX8_delete 33 = .ok (.ifCond .le 5, 3) := by decide +kernel
theorem dX8_delete_36 : decode cX8_delete 36 = .ok (.iconst 0, 1) := by decide +kernel
theorem dX8_delete_37 : decode cX8_delete 37 = .ok (.ireturn, 1) := by decide +kernel
theorem dX8_delete_38 : decode cX8_delete 38 = .ok (.aload_n 0, 1) := by decide +kernel
theorem dX8_delete_39 : decode cX8_delete 39 = .ok (.invokevirtual 147, 3) := by decide +kernel
theorem dX8_delete_42 : decode cX8_delete 42 = .ok (.aload_n 0, 1) := by decide +kernel
theorem dX8_delete_43 : decode cX8_delete 43 = .ok (.getfield 7, 3) := by decide +kernel
theorem dX8_delete_46 : decode cX8_delete 46 = .ok (.sipush 260, 3) := by decide +kernel
theorem dX8_delete_49 : decode cX8_delete 49 = .ok (.iload_n 1, 1) := by decide +kernel
theorem dX8_delete_50 : decode cX8_delete 50 = .ok (.iadd, 1) := by decide +kernel
theorem dX8_delete_51 : decode cX8_delete 51 = .ok (.iaload, 1) := by decide +kernel
theorem dX8_delete_52 : decode cX8_delete 52 = .ok (.ifCond .ne 26, 3) := by decide +kernel
theorem dX8_delete_55 : decode cX8_delete 55 = .ok (.aload_n 0, 1) := by decide +kernel
theorem dX8_delete_56 : decode cX8_delete 56 = .ok (.getfield 7, 3) := by decide +kernel
theorem dX8_delete_59 : decode cX8_delete 59 = .ok (.sipush 260, 3) := by decide +kernel
theorem dX8_delete_62 : decode cX8_delete 62 = .ok (.iload_n 1, 1) := by decide +kernel
theorem dX8_delete_63 : decode cX8_delete 63 = .ok (.iadd, 1) := by decide +kernel
theorem dX8_delete_64 : decode cX8_delete 64 = .ok (.iconst 2, 1) := by decide +kernel
theorem dX8_delete_65 : decode cX8_delete 65 = .ok (.iastore, 1) := by decide +kernel
theorem dX8_delete_66 : decode cX8_delete 66 = .ok (.aload_n 0, 1) := by decide +kernel
theorem dX8_delete_67 : decode cX8_delete 67 = .ok (.iload_n 1, 1) := by decide +kernel
theorem dX8_delete_68 : decode cX8_delete 68 = .ok (.invokevirtual 189, 3) := by decide +kernel
theorem dX8_delete_71 : decode cX8_delete 71 = .ok (.aload_n 0, 1) := by decide +kernel
theorem dX8_delete_72 : decode cX8_delete 72 = .ok (.invokevirtual 192, 3) := by decide +kernel
theorem dX8_delete_75 : decode cX8_delete 75 = .ok (.goto 41, 3) := by decide +kernel
theorem dX8_delete_78 : decode cX8_delete 78 = .ok (.aload_n 0, 1) := by decide +kernel
theorem dX8_delete_79 : decode cX8_delete 79 = .ok (.getfield 7, 3) := by decide +kernel
theorem dX8_delete_82 : decode cX8_delete 82 = .ok (.sipush 260, 3) := by decide +kernel
theorem dX8_delete_85 : decode cX8_delete 85 = .ok (.iload_n 1, 1) := by decide +kernel
theorem dX8_delete_86 : decode cX8_delete 86 = .ok (.iadd, 1) := by decide +kernel
theorem dX8_delete_87 : decode cX8_delete 87 = .ok (.iconst 3, 1) := by decide +kernel
theorem dX8_delete_88 : decode cX8_delete 88 = .ok (.iastore, 1) := by decide +kernel
theorem dX8_delete_89 : decode cX8_delete 89 = .ok (.iconst 0, 1) := by decide +kernel
theorem dX8_delete_90 : decode cX8_delete 90 = .ok (.istore_n 2, 1) := by decide +kernel
theorem dX8_delete_91 : decode cX8_delete 91 = .ok (.aload_n 0, 1) := by decide +kernel
theorem dX8_delete_92 : decode cX8_delete 92 = .ok (.getfield 7, 3) := by decide +kernel
theorem dX8_delete_95 : decode cX8_delete 95 = .ok (.sipush 500, 3) := by decide +kernel
theorem dX8_delete_98 : decode cX8_delete 98 = .ok (.iload_n 2, 1) := by decide +kernel
theorem dX8_delete_99 : decode cX8_delete 99 = .ok (.iadd, 1) := by decide +kernel
theorem dX8_delete_100 : decode cX8_delete 100 = .ok (.iaload, 1) := by decide +kernel
theorem dX8_delete_101 : decode cX8_delete 101 = .ok (.iload_n 1, 1) := by decide +kernel
theorem dX8_delete_102 : decode cX8_delete 102 = .ok (.if_icmp .eq 9, 3) := by decide +kernel
theorem dX8_delete_105 : decode cX8_delete 105 = .ok (.iinc 2 1, 3) := by decide +kernel
theorem dX8_delete_108 : decode cX8_delete 108 = .ok (.goto (-17), 3) := by decide +kernel
theorem dX8_delete_111 : decode cX8_delete 111 = .ok (.aload_n 0, 1) := by decide +kernel
theorem dX8_delete_112 : decode cX8_delete 112 = .ok (.iload_n 2, 1) := by decide +kernel
theorem dX8_delete_113 : decode cX8_delete 113 = .ok (.invokevirtual 176, 3) := by decide +kernel
theorem dX8_delete_116 : decode cX8_delete 116 = .ok (.aload_n 0, 1) := by decide +kernel
theorem dX8_delete_117 : decode cX8_delete 117 = .ok (.getfield 7, 3) := by decide +kernel
theorem dX8_delete_120 : decode cX8_delete 120 = .ok (.iconst 2, 1) := by decide +kernel
theorem dX8_delete_121 : decode cX8_delete 121 = .ok (.iaload, 1) := by decide +kernel
theorem dX8_delete_122 : decode cX8_delete 122 = .ok (.ireturn, 1) := by decide +kernel
set_option maxRecDepth 20000 in
theorem ggX8_isSpan_X8_isIn : GoodIn wsX8_isSpan wsX8_isIn := goodIn_r _ [4] (by decide +kernel) (by decide +kernel)
set_option maxRecDepth 20000 in
theorem gX8_isSpan_X8_isIn : GoodIn wsX8_isSpan (va_wsS RX8 57 yX8_isIn wsX8_isIn) := goodIn_app (goodIn_of _ (by decide +kernel)) ggX8_isSpan_X8_isIn
theorem dX8_isSpan_0 : decode cX8_isSpan 0 = .ok (.iload_n 0, 1) := by decide +kernel
theorem dX8_isSpan_1 : decode cX8_isSpan 1 = .ok (.iconst 0, 1) := by decide +kernel
theorem dX8_isSpan_2 : decode cX8_isSpan 2 = .ok (.sipush 9999, 3) := by decide +kernel
theorem dX8_isSpan_5 : decode cX8_isSpan 5 = .ok (.invokestatic 57, 3) := by decide +kernel
theorem dX8_isSpan_8 : decode cX8_isSpan 8 = .ok (.ifCond .eq 19, 3) := by decide +kernel
theorem dX8_isSpan_11 : decode cX8_isSpan 11 = .ok (.iload_n 1, 1) := by decide +kernel
theorem dX8_isSpan_12 : decode cX8_isSpan 12 = .ok (.iload_n 0, 1) := by decide +kernel
theorem dX8_isSpan_13 : decode cX8_isSpan 13 = .ok (.if_icmp .le 14, 3) := by decide +kernel
theorem dX8_isSpan_16 : decode cX8_isSpan 16 = .ok (.iload_n 1, 1) := by decide +kernel
theorem dX8_isSpan_17 : decode cX8_isSpan 17 = .ok (.sipush 10000, 3) := by decide +kernel
theorem dX8_isSpan_20 : decode cX8_isSpan 20 = .ok (.if_icmp .gt 7, 3) := by decide +kernel
theorem dX8_isSpan_23 : decode cX8_isSpan 23 = .ok (.iconst 1, 1) := by decide +kernel
theorem dX8_isSpan_24 : decode cX8_isSpan 24 = .ok (.goto 4, 3) := by decide +kernel
theorem dX8_isSpan_27 : decode cX8_isSpan 27 = .ok (.iconst 0, 1) := by decide +kernel
theorem dX8_isSpan_28 : decode cX8_isSpan 28 = .ok (.ireturn, 1) := by decide +kernel
set_option maxRecDepth 20000 in
theorem ggX8_mergesIn_X8_isIn : GoodIn wsX8_mergesIn wsX8_isIn := goodIn_r _ [5] (by decide +kernel) (by decide +kernel)
set_option maxRecDepth 20000 in
theorem gX8_mergesIn_X8_isIn : GoodIn wsX8_mergesIn (va_wsS RX8 57 yX8_isIn wsX8_isIn) := goodIn_app (goodIn_of _ (by decide +kernel)) ggX8_mergesIn_X8_isIn
set_option maxRecDepth 20000 in
theorem ggX8_mergesIn_X8_merges : GoodIn wsX8_mergesIn wsX8_merges := goodIn_r _ [9, 1, 10, 11, 12, 4, 13, 14, 15, 16, 17, 18, 19, 20, 21, 22, 23, 24, 25, 26, 27, 28, 29, 30, 31, 32, 33, 34, 35, 36, 37, 38, 39, 40, 41, 42, 43, 44, 45, 46, 47, 48, 49, 50, 51, 52, 53, 54, 55, 56, 57, 58, 59, 60, 61, 62, 63, 64, 65] (by decide +kernel) (by decide +kernel)
set_option maxRecDepth 20000 in
theorem gX8_mergesIn_X8_merges : GoodIn wsX8_mergesIn (wsV RX8 186 RX8 yX8_merges wsX8_merges) := goodIn_app (goodIn_of _ (by decide +kernel)) ggX8_mergesIn_X8_merges
theorem dX8_mergesIn_0 : decode cX8_mergesIn 0 = .ok (.iconst 0, 1) := by decide +kernel
theorem dX8_mergesIn_1 : decode cX8_mergesIn 1 = .ok (.istore_n 3, 1) := by decide +kernel
theorem dX8_mergesIn_2 : decode cX8_mergesIn 2 = .ok (.iconst 0, 1) := by decide +kernel
theorem dX8_mergesIn_3 : decode cX8_mergesIn 3 = .ok (.istore 4, 2) := by decide +kernel
theorem dX8_mergesIn_5 : decode cX8_mergesIn 5 = .ok (.iload 4, 2) := by decide +kernel
theorem dX8_mergesIn_7 : decode cX8_mergesIn 7 = .ok (.aload_n 0, 1) := by decide +kernel
theorem dX8_mergesIn_8 : decode cX8_mergesIn 8 = .ok (.getfield 7, 3) := by decide +kernel
theorem dX8_mergesIn_11 : decode cX8_mergesIn 11 = .ok (.iconst 2, 1) := by decide +kernel
theorem dX8_mergesIn_12 : decode cX8_mergesIn 12 = .ok (.iaload, 1) := by decide +kernel
theorem dX8_mergesIn_13 : decode cX8_mergesIn 13 = .ok (.if_icmp .ge 65, 3) := by decide +kernel
theorem dX8_mergesIn_16 : decode cX8_mergesIn 16 = .ok (.aload_n 0, 1) := by decide +kernel
theorem dX8_mergesIn_17 : decode cX8_mergesIn 17 = .ok (.getfield 7, 3) := by decide +kernel
theorem dX8_mergesIn_20 : decode cX8_mergesIn 20 = .ok (.bipush 20, 2) := by decide +kernel
theorem dX8_mergesIn_22 : decode cX8_mergesIn 22 = .ok (.aload_n 0, 1) := by decide +kernel
theorem dX8_mergesIn_23 : decode cX8_mergesIn 23 = .ok (.getfield 7, 3) := by decide +kernel
theorem dX8_mergesIn_26 : decode cX8_mergesIn 26 = .ok (.sipush 500, 3) := by decide +kernel
theorem dX8_mergesIn_29 : decode cX8_mergesIn 29 = .ok (.iload 4, 2) := by decide +kernel
theorem dX8_mergesIn_31 : decode cX8_mergesIn 31 = .ok (.iadd, 1) := by decide +kernel
theorem dX8_mergesIn_32 : decode cX8_mergesIn 32 = .ok (.iaload, 1) := by decide +kernel
theorem dX8_mergesIn_33 : decode cX8_mergesIn 33 = .ok (.iadd, 1) := by decide +kernel
theorem dX8_mergesIn_34 : decode cX8_mergesIn 34 = .ok (.iaload, 1) := by decide +kernel
theorem dX8_mergesIn_35 : decode cX8_mergesIn 35 = .ok (.iload_n 1, 1) := by decide +kernel
theorem dX8_mergesIn_36 : decode cX8_mergesIn 36 = .ok (.iload_n 2, 1) := by decide +kernel
theorem dX8_mergesIn_37 : decode cX8_mergesIn 37 = .ok (.iconst 1, 1) := by decide +kernel
theorem dX8_mergesIn_38 : decode cX8_mergesIn 38 = .ok (.isub, 1) := by decide +kernel
theorem dX8_mergesIn_39 : decode cX8_mergesIn 39 = .ok (.invokestatic 57, 3) := by decide +kernel
theorem dX8_mergesIn_42 : decode cX8_mergesIn 42 = .ok (.istore 5, 2) := by decide +kernel
theorem dX8_mergesIn_44 : decode cX8_mergesIn 44 = .ok (.iload 5, 2) := by decide +kernel
theorem dX8_mergesIn_46 : decode cX8_mergesIn 46 = .ok (.ifCond .eq 26, 3) := by decide +kernel
theorem dX8_mergesIn_49 : decode cX8_mergesIn 49 = .ok (.iload_n 3, 1) := by decide +kernel
theorem dX8_mergesIn_50 : decode cX8_mergesIn 50 = .ok (.aload_n 0, 1) := by decide +kernel
theorem dX8_mergesIn_51 : decode cX8_mergesIn 51 = .ok (.iload 4, 2) := by decide +kernel
theorem dX8_mergesIn_53 : decode cX8_mergesIn 53 = .ok (.invokevirtual 186, 3) := by decide +kernel
theorem dX8_mergesIn_56 : decode cX8_mergesIn 56 = .ok (.iadd, 1) := by decide +kernel
theorem dX8_mergesIn_57 : decode cX8_mergesIn 57 = .ok (.istore_n 3, 1) := by decide +kernel
theorem dX8_mergesIn_58 : decode cX8_mergesIn 58 = .ok (.aload_n 0, 1) := by decide +kernel
theorem dX8_mergesIn_59 : decode cX8_mergesIn 59 = .ok (.getfield 7, 3) := by decide +kernel
theorem dX8_mergesIn_62 : decode cX8_mergesIn 62 = .ok (.bipush 15, 2) := by decide +kernel
theorem dX8_mergesIn_64 : decode cX8_mergesIn 64 = .ok (.dup2, 1) := by decide +kernel
theorem dX8_mergesIn_65 : decode cX8_mergesIn 65 = .ok (.iaload, 1) := by decide +kernel
theorem dX8_mergesIn_66 : decode cX8_mergesIn 66 = .ok (.iconst 1, 1) := by decide +kernel
theorem dX8_mergesIn_67 : decode cX8_mergesIn 67 = .ok (.iadd, 1) := by decide +kernel
theorem dX8_mergesIn_68 : decode cX8_mergesIn 68 = .ok (.iastore, 1) := by decide +kernel
theorem dX8_mergesIn_69 : decode cX8_mergesIn 69 = .ok (.goto 6, 3) := by decide +kernel
theorem dX8_mergesIn_72 : decode cX8_mergesIn 72 = .ok (.iinc 4 1, 3) := by decide +kernel
theorem dX8_mergesIn_75 : decode cX8_mergesIn 75 = .ok (.goto (-70), 3) := by decide +kernel
theorem dX8_mergesIn_78 : decode cX8_mergesIn 78 = .ok (.iload_n 3, 1) := by decide +kernel
theorem dX8_mergesIn_79 : decode cX8_mergesIn 79 = .ok (.ireturn, 1) := by decide +kernel
set_option maxRecDepth 20000 in
theorem ggX8_looksAt_X8_keyAt : GoodIn wsX8_looksAt wsX8_keyAt := goodIn_r _ [6, 1, 7, 8, 9, 10, 11, 12, 13, 14, 15, 16, 17, 18, 19, 20, 21, 22, 23, 24, 25, 26] (by decide +kernel) (by decide +kernel)
set_option maxRecDepth 20000 in
theorem gX8_looksAt_X8_keyAt : GoodIn wsX8_looksAt (wsV RX8 159 RX8 yX8_keyAt wsX8_keyAt) := goodIn_app (goodIn_of _ (by decide +kernel)) ggX8_looksAt_X8_keyAt
theorem dX8_looksAt_0 : decode cX8_looksAt 0 = .ok (.aload_n 0, 1) := by decide +kernel
theorem dX8_looksAt_1 : decode cX8_looksAt 1 = .ok (.iload_n 1, 1) := by decide +kernel
theorem dX8_looksAt_2 : decode cX8_looksAt 2 = .ok (.invokevirtual 159, 3) := by decide +kernel
theorem dX8_looksAt_5 : decode cX8_looksAt 5 = .ok (.istore_n 2, 1) := by decide +kernel
theorem dX8_looksAt_6 : decode cX8_looksAt 6 = .ok (.aload_n 0, 1) := by decide +kernel
theorem dX8_looksAt_7 : decode cX8_looksAt 7 = .ok (.getfield 7, 3) := by decide +kernel
theorem dX8_looksAt_10 : decode cX8_looksAt 10 = .ok (.bipush 10, 2) := by decide +kernel
theorem dX8_looksAt_12 : decode cX8_looksAt 12 = .ok (.dup2, 1) := by decide +kernel
theorem dX8_looksAt_13 : decode cX8_looksAt 13 = .ok (.iaload, 1) := by decide +kernel
theorem dX8_looksAt_14 : decode cX8_looksAt 14 = .ok (.iconst 1, 1) := by decide +kernel
theorem dX8_looksAt_15 : decode cX8_looksAt 15 = .ok (.iadd, 1) := by decide +kernel
theorem dX8_looksAt_16 : decode cX8_looksAt 16 = .ok (.iastore, 1) := by decide +kernel
theorem dX8_looksAt_17 : decode cX8_looksAt 17 = .ok (.aload_n 0, 1) := by decide +kernel
theorem dX8_looksAt_18 : decode cX8_looksAt 18 = .ok (.getfield 7, 3) := by decide +kernel
theorem dX8_looksAt_21 : decode cX8_looksAt 21 = .ok (.bipush 11, 2) := by decide +kernel
theorem dX8_looksAt_23 : decode cX8_looksAt 23 = .ok (.dup2, 1) := by decide +kernel
theorem dX8_looksAt_24 : decode cX8_looksAt 24 = .ok (.iaload, 1) := by decide +kernel
theorem dX8_looksAt_25 : decode cX8_looksAt 25 = .ok (.aload_n 0, 1) := by decide +kernel
theorem dX8_looksAt_26 : decode cX8_looksAt 26 = .ok (.getfield 7, 3) := by decide +kernel
theorem dX8_looksAt_29 : decode cX8_looksAt 29 = .ok (.sipush 140, 3) := by decide +kernel
theorem dX8_looksAt_32 : decode cX8_looksAt 32 = .ok (.aload_n 0, 1) := by decide +kernel
theorem dX8_looksAt_33 : decode cX8_looksAt 33 = .ok (.getfield 7, 3) := by decide +kernel
theorem dX8_looksAt_36 : decode cX8_looksAt 36 = .ok (.sipush 380, 3) := by decide +kernel
theorem dX8_looksAt_39 : decode cX8_looksAt 39 = .ok (.iload_n 1, 1) := by decide +kernel
theorem dX8_looksAt_40 : decode cX8_looksAt 40 = .ok (.iadd, 1) := by decide +kernel
theorem dX8_looksAt_41 : decode cX8_looksAt 41 = .ok (.iaload, 1) := by decide +kernel
theorem dX8_looksAt_42 : decode cX8_looksAt 42 = .ok (.iadd, 1) := by decide +kernel
theorem dX8_looksAt_43 : decode cX8_looksAt 43 = .ok (.iaload, 1) := by decide +kernel
theorem dX8_looksAt_44 : decode cX8_looksAt 44 = .ok (.iadd, 1) := by decide +kernel
theorem dX8_looksAt_45 : decode cX8_looksAt 45 = .ok (.iastore, 1) := by decide +kernel
theorem dX8_looksAt_46 : decode cX8_looksAt 46 = .ok (.aload_n 0, 1) := by decide +kernel
theorem dX8_looksAt_47 : decode cX8_looksAt 47 = .ok (.getfield 7, 3) := by decide +kernel
theorem dX8_looksAt_50 : decode cX8_looksAt 50 = .ok (.bipush 12, 2) := by decide +kernel
theorem dX8_looksAt_52 : decode cX8_looksAt 52 = .ok (.aload_n 0, 1) := by decide +kernel
theorem dX8_looksAt_53 : decode cX8_looksAt 53 = .ok (.getfield 7, 3) := by decide +kernel
theorem dX8_looksAt_56 : decode cX8_looksAt 56 = .ok (.bipush 12, 2) := by decide +kernel
theorem dX8_looksAt_58 : decode cX8_looksAt 58 = .ok (.iaload, 1) := by decide +kernel
theorem dX8_looksAt_59 : decode cX8_looksAt 59 = .ok (.iconst (-1), 1) := by decide +kernel
theorem dX8_looksAt_60 : decode cX8_looksAt 60 = .ok (.if_icmp .eq 14, 3) := by decide +kernel
theorem dX8_looksAt_63 : decode cX8_looksAt 63 = .ok (.iload_n 2, 1) := by decide +kernel
theorem dX8_looksAt_64 : decode cX8_looksAt 64 = .ok (.aload_n 0, 1) := by decide +kernel
theorem dX8_looksAt_65 : decode cX8_looksAt 65 = .ok (.getfield 7, 3) := by decide +kernel
theorem dX8_looksAt_68 : decode cX8_looksAt 68 = .ok (.bipush 12, 2) := by decide +kernel
theorem dX8_looksAt_70 : decode cX8_looksAt 70 = .ok (.iaload, 1) := by decide +kernel
theorem dX8_looksAt_71 : decode cX8_looksAt 71 = .ok (.if_icmp .ge 7, 3) := by decide +kernel
theorem dX8_looksAt_74 : decode cX8_looksAt 74 = .ok (.iload_n 2, 1) := by decide +kernel
theorem dX8_looksAt_75 : decode cX8_looksAt 75 = .ok (.goto 10, 3) := by decide +kernel
theorem dX8_looksAt_78 : decode cX8_looksAt 78 = .ok (.aload_n 0, 1) := by decide +kernel
theorem dX8_looksAt_79 : decode cX8_looksAt 79 = .ok (.getfield 7, 3) := by decide +kernel
theorem dX8_looksAt_82 : decode cX8_looksAt 82 = .ok (.bipush 12, 2) := by decide +kernel
theorem dX8_looksAt_84 : decode cX8_looksAt 84 = .ok (.iaload, 1) := by decide +kernel
theorem dX8_looksAt_85 : decode cX8_looksAt 85 = .ok (.iastore, 1) := by decide +kernel
theorem dX8_looksAt_86 : decode cX8_looksAt 86 = .ok (.aload_n 0, 1) := by decide +kernel
theorem dX8_looksAt_87 : decode cX8_looksAt 87 = .ok (.getfield 7, 3) := by decide +kernel
theorem dX8_looksAt_90 : decode cX8_looksAt 90 = .ok (.bipush 13, 2) := by decide +kernel
theorem dX8_looksAt_92 : decode cX8_looksAt 92 = .ok (.iload_n 2, 1) := by decide +kernel
theorem dX8_looksAt_93 : decode cX8_looksAt 93 = .ok (.aload_n 0, 1) := by decide +kernel
theorem dX8_looksAt_94 : decode cX8_looksAt 94 = .ok (.getfield 7, 3) := by decide +kernel
theorem dX8_looksAt_97 : decode cX8_looksAt 97 = .ok (.bipush 13, 2) := by decide +kernel
theorem dX8_looksAt_99 : decode cX8_looksAt 99 = .ok (.iaload, 1) := by decide +kernel
theorem dX8_looksAt_100 : decode cX8_looksAt 100 = .ok (.if_icmp .le 7, 3) := by decide +kernel
theorem dX8_looksAt_103 : decode cX8_looksAt 103 = .ok (.iload_n 2, 1) := by decide +kernel
theorem dX8_looksAt_104 : decode cX8_looksAt 104 = .ok (.goto 10, 3) := by decide +kernel
theorem dX8_looksAt_107 : decode cX8_looksAt 107 = .ok (.aload_n 0, 1) := by decide +kernel
theorem dX8_looksAt_108 : decode cX8_looksAt 108 = .ok (.getfield 7, 3) := by decide +kernel
theorem dX8_looksAt_111 : decode cX8_looksAt 111 = .ok (.bipush 13, 2) := by decide +kernel
theorem dX8_looksAt_113 : decode cX8_looksAt 113 = .ok (.iaload, 1) := by decide +kernel
theorem dX8_looksAt_114 : decode cX8_looksAt 114 = .ok (.iastore, 1) := by decide +kernel
theorem dX8_looksAt_115 : decode cX8_looksAt 115 = .ok (.return_, 1) := by decide +kernel
set_option maxRecDepth 20000 in
theorem ggX8_isRead_X8_of : GoodIn wsX8_isRead wsX8_of := goodIn_r _ [5, 6, 10, 11, 12, 13, 14, 15, 16, 17, 18, 19, 20, 21, 22, 23, 24, 25, 26, 27, 28, 29] (by decide +kernel) (by decide +kernel)
set_option maxRecDepth 20000 in
theorem gX8_isRead_X8_of : GoodIn wsX8_isRead (wsV RX8 150 RX8 yX8_of wsX8_of) := goodIn_app (goodIn_of _ (by decide +kernel)) ggX8_isRead_X8_of
set_option maxRecDepth 20000 in
theorem ggX8_isRead_X8_isIn : GoodIn wsX8_isRead wsX8_isIn := goodIn_r _ [9] (by decide +kernel) (by decide +kernel)
set_option maxRecDepth 20000 in
theorem gX8_isRead_X8_isIn : GoodIn wsX8_isRead (va_wsS RX8 57 yX8_isIn wsX8_isIn) := goodIn_app (goodIn_of _ (by decide +kernel)) ggX8_isRead_X8_isIn
theorem dX8_isRead_0 : decode cX8_isRead 0 = .ok (.aload_n 0, 1) := by decide +kernel
theorem dX8_isRead_1 : decode cX8_isRead 1 = .ok (.iload_n 1, 1) := by decide +kernel
theorem dX8_isRead_2 : decode cX8_isRead 2 = .ok (.iconst 0, 1) := by decide +kernel
theorem dX8_isRead_3 : decode cX8_isRead 3 = .ok (.invokevirtual 150, 3) := by decide +kernel
theorem dX8_isRead_6 : decode cX8_isRead 6 = .ok (.iload_n 2, 1) := by decide +kernel
theorem dX8_isRead_7 : decode cX8_isRead 7 = .ok (.iload_n 3, 1) := by decide +kernel
theorem dX8_isRead_8 : decode cX8_isRead 8 = .ok (.iconst 1, 1) := by decide +kernel
theorem dX8_isRead_9 : decode cX8_isRead 9 = .ok (.isub, 1) := by decide +kernel
theorem dX8_isRead_10 : decode cX8_isRead 10 = .ok (.invokestatic 57, 3) := by decide +kernel
theorem dX8_isRead_13 : decode cX8_isRead 13 = .ok (.ireturn, 1) := by decide +kernel
set_option maxRecDepth 20000 in
theorem ggX8_readsPieces_X8_isRead : GoodIn wsX8_readsPieces wsX8_isRead := goodIn_r _ [6, 7, 8, 9, 5, 10, 1, 11, 12, 13, 30, 31, 32, 33, 34, 35, 36, 37, 38, 39, 40, 41, 42, 43, 44, 45, 46, 47, 48, 49] (by decide +kernel) (by decide +kernel)
set_option maxRecDepth 20000 in
theorem gX8_readsPieces_X8_isRead : GoodIn wsX8_readsPieces (wsV RX8 201 RX8 yX8_isRead wsX8_isRead) := goodIn_app (goodIn_of _ (by decide +kernel)) ggX8_readsPieces_X8_isRead
set_option maxRecDepth 20000 in
theorem ggX8_readsPieces_X8_of : GoodIn wsX8_readsPieces wsX8_of := goodIn_r _ [10, 1, 30, 31, 32, 33, 34, 35, 36, 37, 38, 39, 40, 41, 42, 43, 44, 45, 46, 47, 48, 49] (by decide +kernel) (by decide +kernel)
set_option maxRecDepth 20000 in
theorem gX8_readsPieces_X8_of : GoodIn wsX8_readsPieces (wsV RX8 150 RX8 yX8_of wsX8_of) := goodIn_app (goodIn_of _ (by decide +kernel)) ggX8_readsPieces_X8_of
set_option maxRecDepth 20000 in
theorem ggX8_readsPieces_X8_puts : GoodIn wsX8_readsPieces wsX8_puts := goodIn_r _ [17, 1, 30, 31, 32, 33, 34, 35, 36, 37, 38, 39, 40, 41, 42, 43, 44, 45, 46, 47, 48, 49] (by decide +kernel) (by decide +kernel)
set_option maxRecDepth 20000 in
theorem gX8_readsPieces_X8_puts : GoodIn wsX8_readsPieces (wsV RX8 162 RX8 yX8_puts wsX8_puts) := goodIn_app (goodIn_of _ (by decide +kernel)) ggX8_readsPieces_X8_puts
set_option maxRecDepth 20000 in
theorem ggX8_readsPieces_X8_firstPlace : GoodIn wsX8_readsPieces wsX8_firstPlace := goodIn_r _ [21, 7, 8, 9, 5, 10, 1, 30, 31, 32, 33, 34, 35, 36, 37, 38, 39, 40, 41, 42, 43, 44, 45, 46, 47, 48, 49] (by decide +kernel) (by decide +kernel)
set_option maxRecDepth 20000 in
theorem gX8_readsPieces_X8_firstPlace : GoodIn wsX8_readsPieces (wsV RX8 156 RX8 yX8_firstPlace wsX8_firstPlace) := goodIn_app (goodIn_of _ (by decide +kernel)) ggX8_readsPieces_X8_firstPlace
set_option maxRecDepth 20000 in
theorem ggX8_readsPieces_X8_looksAt : GoodIn wsX8_readsPieces wsX8_looksAt := goodIn_r _ [25, 1, 26, 27, 28, 5, 29, 30, 31, 32, 33, 34, 35, 36, 37, 38, 39, 40, 41, 42, 43, 44, 45, 46, 47, 48, 49] (by decide +kernel) (by decide +kernel)
set_option maxRecDepth 20000 in
theorem gX8_readsPieces_X8_looksAt : GoodIn wsX8_readsPieces (wsV RX8 204 RX8 yX8_looksAt wsX8_looksAt) := goodIn_app (goodIn_of _ (by decide +kernel)) ggX8_readsPieces_X8_looksAt
theorem dX8_readsPieces_0 : decode cX8_readsPieces 0 = .ok (.iconst 0, 1) := by decide +kernel
