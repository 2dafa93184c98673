theorem dX4_init_14 : decode cX4_init 14 = .ok (.putfield 15, 3) := by decide +kernel
theorem dX4_init_17 : decode cX4_init 17 = .ok (.return_, 1) := by decide +kernel
set_option maxRecDepth 20000 in
theorem ggX4_become_X7_copyAll : GoodIn wsX4_become wsX7_copyAll := goodIn_r _ [5, 6, 7, 8, 9, 10, 11, 12, 13] (by decide +kernel) (by decide +kernel)
set_option maxRecDepth 20000 in
theorem gX4_become_X7_copyAll_n19 : GoodIn wsX4_become (wsX7_copyAll) := ggX4_become_X7_copyAll
theorem dX4_become_0 : decode cX4_become 0 = .ok (.aload_n 1, 1) := by decide +kernel
theorem dX4_become_1 : decode cX4_become 1 = .ok (.getfield 9, 3) := by decide +kernel
theorem dX4_become_4 : decode cX4_become 4 = .ok (.aload_n 0, 1) := by decide +kernel
theorem dX4_become_5 : decode cX4_become 5 = .ok (.getfield 9, 3) := by decide +kernel
theorem dX4_become_8 : decode cX4_become 8 = .ok (.invokestatic 19, 3) := by decide +kernel
theorem dX4_become_11 : decode cX4_become 11 = .ok (.aload_n 0, 1) := by decide +kernel
theorem dX4_become_12 : decode cX4_become 12 = .ok (.aload_n 1, 1) := by decide +kernel
theorem dX4_become_13 : decode cX4_become 13 = .ok (.getfield 15, 3) := by decide +kernel
theorem dX4_become_16 : decode cX4_become 16 = .ok (.putfield 15, 3) := by decide +kernel
theorem dX4_become_19 : decode cX4_become 19 = .ok (.return_, 1) := by decide +kernel
theorem dX4_add_0 : decode cX4_add 0 = .ok (.aload_n 0, 1) := by decide +kernel
theorem dX4_add_1 : decode cX4_add 1 = .ok (.getfield 9, 3) := by decide +kernel
theorem dX4_add_4 : decode cX4_add 4 = .ok (.iconst 0, 1) := by decide +kernel
theorem dX4_add_5 : decode cX4_add 5 = .ok (.aload_n 0, 1) := by decide +kernel
theorem dX4_add_6 : decode cX4_add 6 = .ok (.getfield 9, 3) := by decide +kernel
theorem dX4_add_9 : decode cX4_add 9 = .ok (.iconst 4, 1) := by decide +kernel
theorem dX4_add_10 : decode cX4_add 10 = .ok (.aload_n 0, 1) := by decide +kernel
theorem dX4_add_11 : decode cX4_add 11 = .ok (.getfield 9, 3) := by decide +kernel
theorem dX4_add_14 : decode cX4_add 14 = .ok (.arraylength, 1) := by decide +kernel
theorem dX4_add_15 : decode cX4_add 15 = .ok (.iconst 4, 1) := by decide +kernel
theorem dX4_add_16 : decode cX4_add 16 = .ok (.isub, 1) := by decide +kernel
theorem dX4_add_17 : decode cX4_add 17 = .ok (.invokestatic 23, 3) := by decide +kernel
theorem dX4_add_20 : decode cX4_add 20 = .ok (.aload_n 0, 1) := by decide +kernel
theorem dX4_add_21 : decode cX4_add 21 = .ok (.getfield 9, 3) := by decide +kernel
theorem dX4_add_24 : decode cX4_add 24 = .ok (.iconst 0, 1) := by decide +kernel
theorem dX4_add_25 : decode cX4_add 25 = .ok (.iload_n 1, 1) := by decide +kernel
theorem dX4_add_26 : decode cX4_add 26 = .ok (.iastore, 1) := by decide +kernel
theorem dX4_add_27 : decode cX4_add 27 = .ok (.aload_n 0, 1) := by decide +kernel
theorem dX4_add_28 : decode cX4_add 28 = .ok (.getfield 9, 3) := by decide +kernel
theorem dX4_add_31 : decode cX4_add 31 = .ok (.iconst 1, 1) := by decide +kernel
theorem dX4_add_32 : decode cX4_add 32 = .ok (.iload_n 2, 1) := by decide +kernel
theorem dX4_add_33 : decode cX4_add 33 = .ok (.iastore, 1) := by decide +kernel
theorem dX4_add_34 : decode cX4_add 34 = .ok (.aload_n 0, 1) := by decide +kernel
theorem dX4_add_35 : decode cX4_add 35 = .ok (.getfield 9, 3) := by decide +kernel
theorem dX4_add_38 : decode cX4_add 38 = .ok (.iconst 2, 1) := by decide +kernel
theorem dX4_add_39 : decode cX4_add 39 = .ok (.iload_n 3, 1) := by decide +kernel
theorem dX4_add_40 : decode cX4_add 40 = .ok (.iastore, 1) := by decide +kernel
theorem dX4_add_41 : decode cX4_add 41 = .ok (.aload_n 0, 1) := by decide +kernel
theorem dX4_add_42 : decode cX4_add 42 = .ok (.getfield 9, 3) := by decide +kernel
theorem dX4_add_45 : decode cX4_add 45 = .ok (.iconst 3, 1) := by decide +kernel
theorem dX4_add_46 : decode cX4_add 46 = .ok (.iload 4, 2) := by decide +kernel
theorem dX4_add_48 : decode cX4_add 48 = .ok (.iastore, 1) := by decide +kernel
theorem dX4_add_49 : decode cX4_add 49 = .ok (.aload_n 0, 1) := by decide +kernel
theorem dX4_add_50 : decode cX4_add 50 = .ok (.aload_n 0, 1) := by decide +kernel
theorem dX4_add_51 : decode cX4_add 51 = .ok (.getfield 15, 3) := by decide +kernel
theorem dX4_add_54 : decode cX4_add 54 = .ok (.iconst 1, 1) := by decide +kernel
theorem dX4_add_55 : decode cX4_add 55 = .ok (.iadd, 1) := by decide +kernel
theorem dX4_add_56 : decode cX4_add 56 = .ok (.bipush 20, 2) := by decide +kernel
theorem dX4_add_58 : decode cX4_add 58 = .ok (.invokestatic 29, 3) := by decide +kernel
theorem dX4_add_61 : decode cX4_add 61 = .ok (.putfield 15, 3) := by decide +kernel
theorem dX4_add_64 : decode cX4_add 64 = .ok (.return_, 1) := by decide +kernel
theorem dX4_numberAt_0 : decode cX4_numberAt 0 = .ok (.iload_n 1, 1) := by decide +kernel
theorem dX4_numberAt_1 : decode cX4_numberAt 1 = .ok (.ifCond .lt 22, 3) := by decide +kernel
theorem dX4_numberAt_4 : decode cX4_numberAt 4 = .ok (.iload_n 1, 1) := by decide +kernel
theorem dX4_numberAt_5 : decode cX4_numberAt 5 = .ok (.bipush 20, 2) := by decide +kernel
theorem dX4_numberAt_7 : decode cX4_numberAt 7 = .ok (.if_icmp .ge 16, 3) := by decide +kernel
theorem dX4_numberAt_10 : decode cX4_numberAt 10 = .ok (.iload_n 2, 1) := by decide +kernel
theorem dX4_numberAt_11 : decode cX4_numberAt 11 = .ok (.ifCond .lt 12, 3) := by decide +kernel
theorem dX4_numberAt_14 : decode cX4_numberAt 14 = .ok (.iload_n 2, 1) := by decide +kernel
theorem dX4_numberAt_15 : decode cX4_numberAt 15 = .ok (.iconst 4, 1) := by decide +kernel
theorem dX4_numberAt_16 : decode cX4_numberAt 16 = .ok (.if_icmp .ge 7, 3) := by decide +kernel
theorem dX4_numberAt_19 : decode cX4_numberAt 19 = .ok (.iconst 1, 1) := by decide +kernel
theorem dX4_numberAt_20 : decode cX4_numberAt 20 = .ok (.goto 4, 3) := by decide +kernel
theorem dX4_numberAt_23 : decode cX4_numberAt 23 = .ok (.iconst 0, 1) := by decide +kernel
theorem dX4_numberAt_24 : decode cX4_numberAt 24 = .ok (.istore_n 3, 1) := by decide +kernel
theorem dX4_numberAt_25 : decode cX4_numberAt 25 = .ok (.iload_n 3, 1) := by decide +kernel
theorem dX4_numberAt_26 : decode cX4_numberAt 26 = .ok (.ifCond .eq 16, 3) := by decide +kernel
theorem dX4_numberAt_29 : decode cX4_numberAt 29 = .ok (.aload_n 0, 1) := by decide +kernel
theorem dX4_numberAt_30 : decode cX4_numberAt 30 = .ok (.getfield 9, 3) := by decide +kernel
theorem dX4_numberAt_33 : decode cX4_numberAt 33 = .ok (.iload_n 1, 1) := by decide +kernel
theorem dX4_numberAt_34 : decode cX4_numberAt 34 = .ok (.iconst 4, 1) := by decide +kernel
theorem dX4_numberAt_35 : decode cX4_numberAt 35 = .ok (.imul, 1) := by decide +kernel
theorem dX4_numberAt_36 : decode cX4_numberAt 36 = .ok (.iload_n 2, 1) := by decide +kernel
theorem dX4_numberAt_37 : decode cX4_numberAt 37 = .ok (.iadd, 1) := by decide +kernel
theorem dX4_numberAt_38 : decode cX4_numberAt 38 = .ok (.iaload, 1) := by decide +kernel
theorem dX4_numberAt_39 : decode cX4_numberAt 39 = .ok (.goto 4, 3) := by decide +kernel
theorem dX4_numberAt_42 : decode cX4_numberAt 42 = .ok (.iconst 0, 1) := by decide +kernel
theorem dX4_numberAt_43 : decode cX4_numberAt 43 = .ok (.ireturn, 1) := by decide +kernel
set_option maxRecDepth 20000 in
theorem ggX4_nearestTo_X4_numberAt : GoodIn wsX4_nearestTo wsX4_numberAt := goodIn_r _ [13, 14, 15, 16] (by decide +kernel) (by decide +kernel)
set_option maxRecDepth 20000 in
theorem gX4_nearestTo_X4_numberAt : GoodIn wsX4_nearestTo (wsV RX4 35 RX4 yX4_numberAt wsX4_numberAt) := goodIn_app (goodIn_of _ (by decide +kernel)) ggX4_nearestTo_X4_numberAt
theorem dX4_nearestTo_0 : decode cX4_nearestTo 0 = .ok (.iconst (-1), 1) := by decide +kernel
theorem dX4_nearestTo_1 : decode cX4_nearestTo 1 = .ok (.istore_n 3, 1) := by decide +kernel
theorem dX4_nearestTo_2 : decode cX4_nearestTo 2 = .ok (.iconst 0, 1) := by decide +kernel
theorem dX4_nearestTo_3 : decode cX4_nearestTo 3 = .ok (.istore 4, 2) := by decide +kernel
theorem dX4_nearestTo_5 : decode cX4_nearestTo 5 = .ok (.iconst 0, 1) := by decide +kernel
theorem dX4_nearestTo_6 : decode cX4_nearestTo 6 = .ok (.istore 5, 2) := by decide +kernel
theorem dX4_nearestTo_8 : decode cX4_nearestTo 8 = .ok (.iload 5, 2) := by decide +kernel
theorem dX4_nearestTo_10 : decode cX4_nearestTo 10 = .ok (.aload_n 0, 1) := by decide +kernel
theorem dX4_nearestTo_11 : decode cX4_nearestTo 11 = .ok (.getfield 15, 3) := by decide +kernel
theorem dX4_nearestTo_14 : decode cX4_nearestTo 14 = .ok (.if_icmp .ge 48, 3) := by decide +kernel
theorem dX4_nearestTo_17 : decode cX4_nearestTo 17 = .ok (.iload_n 2, 1) := by decide +kernel
theorem dX4_nearestTo_18 : decode cX4_nearestTo 18 = .ok (.aload_n 0, 1) := by decide +kernel
theorem dX4_nearestTo_19 : decode cX4_nearestTo 19 = .ok (.iload 5, 2) := by decide +kernel
theorem dX4_nearestTo_21 : decode cX4_nearestTo 21 = .ok (.iconst 1, 1) := by decide +kernel
theorem dX4_nearestTo_22 : decode cX4_nearestTo 22 = .ok (.invokevirtual 35, 3) := by decide +kernel
theorem dX4_nearestTo_25 : decode cX4_nearestTo 25 = .ok (.invokestatic 29, 3) := by decide +kernel
theorem dX4_nearestTo_28 : decode cX4_nearestTo 28 = .ok (.iload_n 1, 1) := by decide +kernel
theorem dX4_nearestTo_29 : decode cX4_nearestTo 29 = .ok (.aload_n 0, 1) := by decide +kernel
theorem dX4_nearestTo_30 : decode cX4_nearestTo 30 = .ok (.iload 5, 2) := by decide +kernel
theorem dX4_nearestTo_32 : decode cX4_nearestTo 32 = .ok (.iconst 0, 1) := by decide +kernel
theorem dX4_nearestTo_33 : decode cX4_nearestTo 33 = .ok (.invokevirtual 35, 3) := by decide +kernel
theorem dX4_nearestTo_36 : decode cX4_nearestTo 36 = .ok (.invokestatic 38, 3) := by decide +kernel
theorem dX4_nearestTo_39 : decode cX4_nearestTo 39 = .ok (.isub, 1) := by decide +kernel
theorem dX4_nearestTo_40 : decode cX4_nearestTo 40 = .ok (.istore 6, 2) := by decide +kernel
theorem dX4_nearestTo_42 : decode cX4_nearestTo 42 = .ok (.iload 6, 2) := by decide +kernel
theorem dX4_nearestTo_44 : decode cX4_nearestTo 44 = .ok (.iload 4, 2) := by decide +kernel
theorem dX4_nearestTo_46 : decode cX4_nearestTo 46 = .ok (.if_icmp .le 10, 3) := by decide +kernel
theorem dX4_nearestTo_49 : decode cX4_nearestTo 49 = .ok (.iload 5, 2) := by decide +kernel
theorem dX4_nearestTo_51 : decode cX4_nearestTo 51 = .ok (.istore_n 3, 1) := by decide +kernel
theorem dX4_nearestTo_52 : decode cX4_nearestTo 52 = .ok (.iload 6, 2) := by decide +kernel
theorem dX4_nearestTo_54 : decode cX4_nearestTo 54 = .ok (.istore 4, 2) := by decide +kernel
theorem dX4_nearestTo_56 : decode cX4_nearestTo 56 = .ok (.iinc 5 1, 3) := by decide +kernel
theorem dX4_nearestTo_59 : decode cX4_nearestTo 59 = .ok (.goto (-51), 3) := by decide +kernel
theorem dX4_nearestTo_62 : decode cX4_nearestTo 62 = .ok (.iload_n 3, 1) := by decide +kernel
theorem dX4_nearestTo_63 : decode cX4_nearestTo 63 = .ok (.ireturn, 1) := by decide +kernel
theorem dX5_init_0 : decode cX5_init 0 = .ok (.aload_n 0, 1) := by decide +kernel
theorem dX5_init_1 : decode cX5_init 1 = .ok (.invokespecial 3, 3) := by decide +kernel
theorem dX5_init_4 : decode cX5_init 4 = .ok (.aload_n 0, 1) := by decide +kernel
theorem dX5_init_5 : decode cX5_init 5 = .ok (.iconst 0, 1) := by decide +kernel
theorem dX5_init_6 : decode cX5_init 6 = .ok (.putfield 9, 3) := by decide +kernel
theorem dX5_init_9 : decode cX5_init 9 = .ok (.aload_n 0, 1) := by decide +kernel
theorem dX5_init_10 : decode cX5_init 10 = .ok (.iconst 0, 1) := by decide +kernel
theorem dX5_init_11 : decode cX5_init 11 = .ok (.putfield 15, 3) := by decide +kernel
theorem dX5_init_14 : decode cX5_init 14 = .ok (.aload_n 0, 1) := by decide +kernel
theorem dX5_init_15 : decode cX5_init 15 = .ok (.iconst 0, 1) := by decide +kernel
theorem dX5_init_16 : decode cX5_init 16 = .ok (.putfield 18, 3) := by decide +kernel
theorem dX5_init_19 : decode cX5_init 19 = .ok (.aload_n 0, 1) := by decide +kernel
theorem dX5_init_20 : decode cX5_init 20 = .ok (.iconst (-1), 1) := by decide +kernel
theorem dX5_init_21 : decode cX5_init 21 = .ok (.putfield 21, 3) := by decide +kernel
theorem dX5_init_24 : decode cX5_init 24 = .ok (.aload_n 0, 1) := by decide +kernel
theorem dX5_init_25 : decode cX5_init 25 = .ok (.aload_n 1, 1) := by decide +kernel
theorem dX5_init_26 : decode cX5_init 26 = .ok (.putfield 24, 3) := by decide +kernel
theorem dX5_init_29 : decode cX5_init 29 = .ok (.return_, 1) := by decide +kernel
set_option maxRecDepth 20000 in
theorem ggX5_readColumn_X2_clear : GoodIn wsX5_readColumn wsX2_clear := goodIn_r _ [11, 12, 13, 14, 15, 16, 17, 18, 19, 20, 21, 22, 23, 24, 25, 26, 27, 28, 29, 30, 31, 32, 33, 34, 35, 36, 37, 38, 39, 40, 41, 42, 43, 44, 45, 46, 47, 10, 48, 49, 225, 226, 227, 228, 229, 230, 231, 232, 233, 234, 235, 236, 237, 238, 239, 240, 241, 242, 243, 244, 245, 246, 247, 248] (by decide +kernel) (by decide +kernel)
set_option maxRecDepth 20000 in
theorem gX5_readColumn_X2_clear : GoodIn wsX5_readColumn (wsV RX5 28 RX2 yX2_clear wsX2_clear) := goodIn_app (goodIn_of _ (by decide +kernel)) ggX5_readColumn_X2_clear
set_option maxRecDepth 20000 in
theorem ggX5_readColumn_X5_skipSpaces : GoodIn wsX5_readColumn wsX5_skipSpaces := goodIn_r _ [54, 2, 1, 55, 56, 57, 58, 59, 60, 61, 62, 220, 221, 222, 223, 224, 249, 250] (by decide +kernel) (by decide +kernel)
set_option maxRecDepth 20000 in
theorem gX5_readColumn_X5_skipSpaces : GoodIn wsX5_readColumn (wsV RX5 33 RX5 yX5_skipSpaces wsX5_skipSpaces) := goodIn_app (goodIn_of _ (by decide +kernel)) ggX5_readColumn_X5_skipSpaces
set_option maxRecDepth 20000 in
theorem ggX5_readColumn_X5_readStatement : GoodIn wsX5_readColumn wsX5_readStatement := goodIn_r _ [66, 2, 67, 68, 69, 53, 70, 1, 55, 56, 57, 58, 59, 60, 61, 62, 71, 72, 73, 74, 75, 76, 77, 78, 79, 80, 81, 82, 83, 84, 85, 86, 87, 88, 89, 90, 91, 92, 93, 94, 95, 96, 97, 98, 99, 100, 101, 102, 103, 104, 105, 106, 107, 108, 109, 110, 111, 112, 113, 114, 115, 116, 117, 118, 119, 120, 121, 122, 123, 124, 125, 126, 127, 5, 6, 3, 128, 129, 130, 131, 132, 4, 133, 134, 135, 136, 137, 138, 139, 140, 141, 50, 51, 52, 54, 142, 143, 144, 145, 146, 147, 148, 149, 150, 151, 152, 153, 154, 155, 156, 157, 158, 159, 160, 24, 161, 162, 26, 163, 164, 165, 166, 167, 168, 169, 170, 171, 172, 173, 174, 175, 27, 28, 176, 177, 178, 179, 29, 180, 181, 182, 183, 184, 185, 186, 187, 31, 188, 189, 190, 191, 192, 193, 194, 195, 196, 197, 198, 199, 200, 201, 202, 203, 204, 205, 206, 207, 208, 209, 210, 211, 212, 213, 39, 214, 215, 42, 43, 44, 216, 217, 218, 219, 46, 47, 10, 48, 49, 220, 221, 222, 223, 224, 249, 250, 225, 226, 227, 228, 229, 230, 231, 232, 233, 234, 235, 236, 241, 242, 243, 244, 245, 246, 247, 248] (by decide +kernel) (by decide +kernel)
set_option maxRecDepth 20000 in
theorem gX5_readColumn_X5_readStatement : GoodIn wsX5_readColumn (wsV RX5 36 RX5 yX5_readStatement wsX5_readStatement) := goodIn_app (goodIn_of _ (by decide +kernel)) ggX5_readColumn_X5_readStatement
theorem dX5_readColumn_0 : decode cX5_readColumn 0 = .ok (.aload_n 0, 1) := by decide +kernel
theorem dX5_readColumn_1 : decode cX5_readColumn 1 = .ok (.iload_n 1, 1) := by decide +kernel
theorem dX5_readColumn_2 : decode cX5_readColumn 2 = .ok (.putfield 9, 3) := by decide +kernel
theorem dX5_readColumn_5 : decode cX5_readColumn 5 = .ok (.aload_n 0, 1) := by decide +kernel
theorem dX5_readColumn_6 : decode cX5_readColumn 6 = .ok (.iconst 0, 1) := by decide +kernel
theorem dX5_readColumn_7 : decode cX5_readColumn 7 = .ok (.putfield 15, 3) := by decide +kernel
theorem dX5_readColumn_10 : decode cX5_readColumn 10 = .ok (.aload_n 0, 1) := by decide +kernel
theorem dX5_readColumn_11 : decode cX5_readColumn 11 = .ok (.iconst 0, 1) := by decide +kernel
theorem dX5_readColumn_12 : decode cX5_readColumn 12 = .ok (.putfield 18, 3) := by decide +kernel
theorem dX5_readColumn_15 : decode cX5_readColumn 15 = .ok (.aload_n 0, 1) := by decide +kernel
theorem dX5_readColumn_16 : decode cX5_readColumn 16 = .ok (.iconst (-1), 1) := by decide +kernel
theorem dX5_readColumn_17 : decode cX5_readColumn 17 = .ok (.putfield 21, 3) := by decide +kernel
theorem dX5_readColumn_20 : decode cX5_readColumn 20 = .ok (.aload_n 2, 1) := by decide +kernel
theorem dX5_readColumn_21 : decode cX5_readColumn 21 = .ok (.invokevirtual 28, 3) := by decide +kernel
theorem dX5_readColumn_24 : decode cX5_readColumn 24 = .ok (.aload_n 0, 1) := by decide +kernel
theorem dX5_readColumn_25 : decode cX5_readColumn 25 = .ok (.invokevirtual 33, 3) := by decide +kernel
theorem dX5_readColumn_28 : decode cX5_readColumn 28 = .ok (.aload_n 0, 1) := by decide +kernel
theorem dX5_readColumn_29 : decode cX5_readColumn 29 = .ok (.getfield 9, 3) := by decide +kernel
theorem dX5_readColumn_32 : decode cX5_readColumn 32 = .ok (.istore_n 3, 1) := by decide +kernel
theorem dX5_readColumn_33 : decode cX5_readColumn 33 = .ok (.iload_n 3, 1) := by decide +kernel
theorem dX5_readColumn_34 : decode cX5_readColumn 34 = .ok (.ifCond .le 36, 3) := by decide +kernel
theorem dX5_readColumn_37 : decode cX5_readColumn 37 = .ok (.aload_n 0, 1) := by decide +kernel
theorem dX5_readColumn_38 : decode cX5_readColumn 38 = .ok (.getfield 15, 3) := by decide +kernel
theorem dX5_readColumn_41 : decode cX5_readColumn 41 = .ok (.aload_n 0, 1) := by decide +kernel
theorem dX5_readColumn_42 : decode cX5_readColumn 42 = .ok (.getfield 9, 3) := by decide +kernel
theorem dX5_readColumn_45 : decode cX5_readColumn 45 = .ok (.if_icmp .ge 25, 3) := by decide +kernel
theorem dX5_readColumn_48 : decode cX5_readColumn 48 = .ok (.aload_n 0, 1) := by decide +kernel
theorem dX5_readColumn_49 : decode cX5_readColumn 49 = .ok (.getfield 18, 3) := by decide +kernel
theorem dX5_readColumn_52 : decode cX5_readColumn 52 = .ok (.ifCond .ne 18, 3) := by decide +kernel
theorem dX5_readColumn_55 : decode cX5_readColumn 55 = .ok (.aload_n 0, 1) := by decide +kernel
theorem dX5_readColumn_56 : decode cX5_readColumn 56 = .ok (.aload_n 2, 1) := by decide +kernel
theorem dX5_readColumn_57 : decode cX5_readColumn 57 = .ok (.invokevirtual 36, 3) := by decide +kernel
theorem dX5_readColumn_60 : decode cX5_readColumn 60 = .ok (.aload_n 0, 1) := by decide +kernel
theorem dX5_readColumn_61 : decode cX5_readColumn 61 = .ok (.invokevirtual 33, 3) := by decide +kernel
theorem dX5_readColumn_64 : decode cX5_readColumn 64 = .ok (.iinc 3 (-1), 3) := by decide +kernel
theorem dX5_readColumn_67 : decode cX5_readColumn 67 = .ok (.goto (-34), 3) := by decide +kernel
theorem dX5_readColumn_70 : decode cX5_readColumn 70 = .ok (.aload_n 0, 1) := by decide +kernel
theorem dX5_readColumn_71 : decode cX5_readColumn 71 = .ok (.getfield 18, 3) := by decide +kernel
theorem dX5_readColumn_74 : decode cX5_readColumn 74 = .ok (.ifCond .ne 13, 3) := by decide +kernel
theorem dX5_readColumn_77 : decode cX5_readColumn 77 = .ok (.aload_n 2, 1) := by decide +kernel
theorem dX5_readColumn_78 : decode cX5_readColumn 78 = .ok (.getfield 40, 3) := by decide +kernel
theorem dX5_readColumn_81 : decode cX5_readColumn 81 = .ok (.getfield 44, 3) := by decide +kernel
theorem dX5_readColumn_84 : decode cX5_readColumn 84 = .ok (.goto 7, 3) := by decide +kernel
theorem dX5_readColumn_87 : decode cX5_readColumn 87 = .ok (.aload_n 0, 1) := by decide +kernel
theorem dX5_readColumn_88 : decode cX5_readColumn 88 = .ok (.getfield 18, 3) := by decide +kernel
theorem dX5_readColumn_91 : decode cX5_readColumn 91 = .ok (.ireturn, 1) := by decide +kernel
set_option maxRecDepth 20000 in
theorem ggX5_readStatement_X5_skipWord : GoodIn wsX5_readStatement wsX5_skipWord := goodIn_r _ [6, 1, 7, 8, 9, 10, 11, 12, 13, 14, 15, 188, 189, 190, 191, 192, 193, 194] (by decide +kernel) (by decide +kernel)
set_option maxRecDepth 20000 in
theorem gX5_readStatement_X5_skipWord : GoodIn wsX5_readStatement (wsV RX5 49 RX5 yX5_skipWord wsX5_skipWord) := goodIn_app (goodIn_of _ (by decide +kernel)) ggX5_readStatement_X5_skipWord
set_option maxRecDepth 20000 in
theorem ggX5_readStatement_X5_isWord : GoodIn wsX5_readStatement wsX5_isWord := goodIn_r _ [19, 1, 8, 20, 21, 22, 23, 24, 25, 26, 27, 28, 29, 30, 31, 9, 10, 11, 12, 13, 14, 15, 32, 33, 34, 35, 36, 37, 38, 39, 40, 41, 42, 43, 44, 45, 46, 47, 48, 49, 50, 51, 52, 53, 54, 55, 56, 57, 58, 59, 60, 61, 62, 63, 64, 65, 66, 67, 68, 188, 189, 190, 191, 192, 193, 194] (by decide +kernel) (by decide +kernel)
set_option maxRecDepth 20000 in
theorem gX5_readStatement_X5_isWord : GoodIn wsX5_readStatement (wsV RX5 54 RX5 yX5_isWord wsX5_isWord) := goodIn_app (goodIn_of _ (by decide +kernel)) ggX5_readStatement_X5_isWord
set_option maxRecDepth 20000 in
theorem ggX5_readStatement_X5_readRow : GoodIn wsX5_readStatement wsX5_readRow := goodIn_r _ [72, 73, 74, 75, 76, 77, 78, 79, 5, 80, 81, 82, 83, 84, 85, 1, 7, 8, 86, 87, 88, 89, 90, 91, 92, 93, 94, 9, 10, 11, 12, 13, 14, 15, 95, 96, 97, 98, 99, 100, 101, 102, 103, 104, 105, 106, 107, 108, 109, 110, 111, 112, 113, 114, 115, 116, 117, 118, 119, 120, 121, 122, 123, 124, 125, 126, 127, 128, 129, 130, 131, 132, 133, 134, 135, 136, 137, 138, 139, 140, 141, 142, 143, 144, 145, 146, 147, 148, 149, 150, 151, 152, 153, 154, 155, 156, 157, 158, 159, 160, 161, 162, 163, 195, 196, 197, 198, 199, 200, 201, 202, 203, 204, 205, 206, 188, 189, 190, 191, 192, 193, 194, 207, 208, 209, 210, 211, 212, 213, 214] (by decide +kernel) (by decide +kernel)
set_option maxRecDepth 20000 in
theorem gX5_readStatement_X5_readRow : GoodIn wsX5_readStatement (wsV RX5 58 RX5 yX5_readRow wsX5_readRow) := goodIn_app (goodIn_of _ (by decide +kernel)) ggX5_readStatement_X5_readRow
set_option maxRecDepth 20000 in
theorem ggX5_readStatement_X5_readSetting : GoodIn wsX5_readStatement wsX5_readSetting := goodIn_r _ [167, 75, 168, 169, 170, 5, 171, 16, 17, 18, 19, 1, 8, 20, 21, 22, 23, 24, 25, 26, 27, 28, 29, 30, 31, 9, 10, 11, 12, 13, 14, 15, 32, 33, 34, 35, 36, 37, 38, 39, 40, 41, 42, 43, 44, 45, 46, 47, 48, 49, 50, 51, 52, 53, 54, 55, 56, 57, 58, 59, 60, 61, 62, 63, 64, 65, 66, 67, 68, 77, 78, 79, 80, 81, 172, 173, 174, 175, 176, 177, 178, 179, 180, 181, 82, 83, 84, 85, 7, 86, 87, 88, 89, 90, 91, 92, 93, 94, 95, 96, 97, 182, 183, 184, 185, 186, 187, 188, 189, 190, 191, 192, 193, 194, 195, 196, 197, 198, 199, 200, 201, 202] (by decide +kernel) (by decide +kernel)
set_option maxRecDepth 20000 in
theorem gX5_readStatement_X5_readSetting : GoodIn wsX5_readStatement (wsV RX5 62 RX5 yX5_readSetting wsX5_readSetting) := goodIn_app (goodIn_of _ (by decide +kernel)) ggX5_readStatement_X5_readSetting
set_option maxRecDepth 20000 in
theorem ggX5_readStatement_X5_takeSign : GoodIn wsX5_readStatement wsX5_takeSign := goodIn_r _ [101, 1, 7, 8, 91, 92, 93, 5, 94, 9, 10, 11, 12, 13, 14, 15, 77, 78, 79, 80, 75, 81, 188, 189, 190, 191, 192, 193, 194] (by decide +kernel) (by decide +kernel)
set_option maxRecDepth 20000 in
theorem gX5_readStatement_X5_takeSign : GoodIn wsX5_readStatement (wsV RX5 65 RX5 yX5_takeSign wsX5_takeSign) := goodIn_app (goodIn_of _ (by decide +kernel)) ggX5_readStatement_X5_takeSign
theorem dX5_readStatement_0 : decode cX5_readStatement 0 = .ok (.aload_n 0, 1) := by decide +kernel
theorem dX5_readStatement_1 : decode cX5_readStatement 1 = .ok (.getfield 15, 3) := by decide +kernel
theorem dX5_readStatement_4 : decode cX5_readStatement 4 = .ok (.istore_n 2, 1) := by decide +kernel
theorem dX5_readStatement_5 : decode cX5_readStatement 5 = .ok (.aload_n 0, 1) := by decide +kernel
theorem dX5_readStatement_6 : decode cX5_readStatement 6 = .ok (.invokevirtual 49, 3) := by decide +kernel
theorem dX5_readStatement_9 : decode cX5_readStatement 9 = .ok (.aload_n 0, 1) := by decide +kernel
theorem dX5_readStatement_10 : decode cX5_readStatement 10 = .ok (.iload_n 2, 1) := by decide +kernel
theorem dX5_readStatement_11 : decode cX5_readStatement 11 = .ok (.ldc 52, 2) := by decide +kernel
theorem dX5_readStatement_13 : decode cX5_readStatement 13 = .ok (.invokevirtual 54, 3) := by decide +kernel
theorem dX5_readStatement_16 : decode cX5_readStatement 16 = .ok (.ifCond .eq 12, 3) := by decide +kernel
theorem dX5_readStatement_19 : decode cX5_readStatement 19 = .ok (.aload_n 0, 1) := by decide +kernel
theorem dX5_readStatement_20 : decode cX5_readStatement 20 = .ok (.iload_n 2, 1) := by decide +kernel
theorem dX5_readStatement_21 : decode cX5_readStatement 21 = .ok (.aload_n 1, 1) := by decide +kernel
theorem dX5_readStatement_22 : decode cX5_readStatement 22 = .ok (.invokevirtual 58, 3) := by decide +kernel
theorem dX5_readStatement_25 : decode cX5_readStatement 25 = .ok (.goto 9, 3) := by decide +kernel
theorem dX5_readStatement_28 : decode cX5_readStatement 28 = .ok (.aload_n 0, 1) := by decide +kernel
theorem dX5_readStatement_29 : decode cX5_readStatement 29 = .ok (.iload_n 2, 1) := by decide +kernel
theorem dX5_readStatement_30 : decode cX5_readStatement 30 = .ok (.aload_n 1, 1) := by decide +kernel
theorem dX5_readStatement_31 : decode cX5_readStatement 31 = .ok (.invokevirtual 62, 3) := by decide +kernel
theorem dX5_readStatement_34 : decode cX5_readStatement 34 = .ok (.aload_n 0, 1) := by decide +kernel
theorem dX5_readStatement_35 : decode cX5_readStatement 35 = .ok (.bipush 59, 2) := by decide +kernel
theorem dX5_readStatement_37 : decode cX5_readStatement 37 = .ok (.iconst 1, 1) := by decide +kernel
theorem dX5_readStatement_38 : decode cX5_readStatement 38 = .ok (.invokevirtual 65, 3) := by decide +kernel
theorem dX5_readStatement_41 : decode cX5_readStatement 41 = .ok (.pop, 1) := by decide +kernel
theorem dX5_readStatement_42 : decode cX5_readStatement 42 = .ok (.return_, 1) := by decide +kernel
set_option maxRecDepth 20000 in
theorem ggX5_readRow_X5_fail : GoodIn wsX5_readRow wsX5_fail := goodIn_r _ [9, 3, 10, 115, 116, 117, 118, 119] (by decide +kernel) (by decide +kernel)
set_option maxRecDepth 20000 in
theorem gX5_readRow_X5_fail : GoodIn wsX5_readRow (wsV RX5 69 RX5 yX5_fail wsX5_fail) := goodIn_app (goodIn_of _ (by decide +kernel)) ggX5_readRow_X5_fail
set_option maxRecDepth 20000 in
theorem ggX5_readRow_X5_takeNumber : GoodIn wsX5_readRow wsX5_takeNumber := goodIn_r _ [14, 15, 16, 17, 18, 19, 20, 21, 22, 23, 24, 25, 8, 26, 27, 28, 29, 30, 31, 32, 33, 34, 35, 36, 5, 6, 7, 9, 3, 10, 115, 116, 117, 118, 119, 120, 121] (by decide +kernel) (by decide +kernel)
set_option maxRecDepth 20000 in
theorem gX5_readRow_X5_takeNumber : GoodIn wsX5_readRow (wsV RX5 73 RX5 yX5_takeNumber wsX5_takeNumber) := goodIn_app (goodIn_of _ (by decide +kernel)) ggX5_readRow_X5_takeNumber
set_option maxRecDepth 20000 in
theorem ggX5_readRow_X5_takeSign : GoodIn wsX5_readRow wsX5_takeSign := goodIn_r _ [40, 15, 16, 17, 23, 24, 25, 8, 26, 27, 28, 29, 30, 31, 32, 33, 5, 6, 7, 9, 3, 10, 115, 116, 117, 118, 119, 120, 121] (by decide +kernel) (by decide +kernel)
set_option maxRecDepth 20000 in
theorem gX5_readRow_X5_takeSign : GoodIn wsX5_readRow (wsV RX5 65 RX5 yX5_takeSign wsX5_takeSign) := goodIn_app (goodIn_of _ (by decide +kernel)) ggX5_readRow_X5_takeSign
set_option maxRecDepth 20000 in
theorem ggX5_readRow_X6_add : GoodIn wsX5_readRow wsX6_add := goodIn_r _ [45, 46, 47, 48, 49, 111, 112, 113, 114] (by decide +kernel) (by decide +kernel)
set_option maxRecDepth 20000 in
theorem gX5_readRow_X6_add : GoodIn wsX5_readRow (wsV RX5 81 RX6 yX6_add wsX6_add) := goodIn_app (goodIn_of _ (by decide +kernel)) ggX5_readRow_X6_add
set_option maxRecDepth 20000 in
theorem ggX5_readRow_X3_putIn : GoodIn wsX5_readRow wsX3_putIn := goodIn_r _ [54, 55, 56, 57, 58, 59, 60, 61, 62, 63, 64, 44, 65, 47, 66, 67, 68, 53, 69, 70, 71, 72, 73, 74, 75, 76, 77, 78, 79, 80, 81, 82, 83, 84, 85, 86, 87, 88, 89, 90, 91, 92, 93, 94, 95, 96, 97, 98, 99, 20, 21, 22, 100, 101, 102, 122, 123, 124, 125, 126, 127, 128, 129, 111, 112, 113, 114] (by decide +kernel) (by decide +kernel)
set_option maxRecDepth 20000 in
theorem gX5_readRow_X3_putIn : GoodIn wsX5_readRow (wsV RX5 85 RX3 yX3_putIn wsX3_putIn) := goodIn_app (goodIn_of _ (by decide +kernel)) ggX5_readRow_X3_putIn
theorem dX5_readRow_0 : decode cX5_readRow 0 = .ok (.aload_n 2, 1) := by decide +kernel
theorem dX5_readRow_1 : decode cX5_readRow 1 = .ok (.getfield 40, 3) := by decide +kernel
theorem dX5_readRow_4 : decode cX5_readRow 4 = .ok (.getfield 44, 3) := by decide +kernel
theorem dX5_readRow_7 : decode cX5_readRow 7 = .ok (.bipush 120, 2) := by decide +kernel
theorem dX5_readRow_9 : decode cX5_readRow 9 = .ok (.if_icmp .lt 11, 3) := by decide +kernel
theorem dX5_readRow_12 : decode cX5_readRow 12 = .ok (.aload_n 0, 1) := by decide +kernel
theorem dX5_readRow_13 : decode cX5_readRow 13 = .ok (.bipush (-4), 2) := by decide +kernel
theorem dX5_readRow_15 : decode cX5_readRow 15 = .ok (.iload_n 1, 1) := by decide +kernel
theorem dX5_readRow_16 : decode cX5_readRow 16 = .ok (.invokevirtual 69, 3) := by decide +kernel
theorem dX5_readRow_19 : decode cX5_readRow 19 = .ok (.return_, 1) := by decide +kernel
theorem dX5_readRow_20 : decode cX5_readRow 20 = .ok (.aload_n 0, 1) := by decide +kernel
theorem dX5_readRow_21 : decode cX5_readRow 21 = .ok (.iconst 0, 1) := by decide +kernel
theorem dX5_readRow_22 : decode cX5_readRow 22 = .ok (.sipush 9999, 3) := by decide +kernel
theorem dX5_readRow_25 : decode cX5_readRow 25 = .ok (.invokevirtual 73, 3) := by decide +kernel
theorem dX5_readRow_28 : decode cX5_readRow 28 = .ok (.istore_n 3, 1) := by decide +kernel
theorem dX5_readRow_29 : decode cX5_readRow 29 = .ok (.aload_n 0, 1) := by decide +kernel
theorem dX5_readRow_30 : decode cX5_readRow 30 = .ok (.bipush 45, 2) := by decide +kernel
theorem dX5_readRow_32 : decode cX5_readRow 32 = .ok (.iconst 0, 1) := by decide +kernel
theorem dX5_readRow_33 : decode cX5_readRow 33 = .ok (.invokevirtual 65, 3) := by decide +kernel
theorem dX5_readRow_36 : decode cX5_readRow 36 = .ok (.istore 4, 2) := by decide +kernel
theorem dX5_readRow_38 : decode cX5_readRow 38 = .ok (.aload_n 0, 1) := by decide +kernel
theorem dX5_readRow_39 : decode cX5_readRow 39 = .ok (.iconst 0, 1) := by decide +kernel
theorem dX5_readRow_40 : decode cX5_readRow 40 = .ok (.bipush 99, 2) := by decide +kernel
theorem dX5_readRow_42 : decode cX5_readRow 42 = .ok (.invokevirtual 73, 3) := by decide +kernel
theorem dX5_readRow_45 : decode cX5_readRow 45 = .ok (.istore 5, 2) := by decide +kernel
theorem dX5_readRow_47 : decode cX5_readRow 47 = .ok (.aload_n 0, 1) := by decide +kernel
theorem dX5_readRow_48 : decode cX5_readRow 48 = .ok (.getfield 18, 3) := by decide +kernel
theorem dX5_readRow_51 : decode cX5_readRow 51 = .ok (.ifCond .ne 32, 3) := by decide +kernel
theorem dX5_readRow_54 : decode cX5_readRow 54 = .ok (.aload_n 2, 1) := by decide +kernel
theorem dX5_readRow_55 : decode cX5_readRow 55 = .ok (.getfield 77, 3) := by decide +kernel
theorem dX5_readRow_58 : decode cX5_readRow 58 = .ok (.aload_n 2, 1) := by decide +kernel
theorem dX5_readRow_59 : decode cX5_readRow 59 = .ok (.getfield 40, 3) := by decide +kernel
theorem dX5_readRow_62 : decode cX5_readRow 62 = .ok (.iload_n 3, 1) := by decide +kernel
theorem dX5_readRow_63 : decode cX5_readRow 63 = .ok (.iload 4, 2) := by decide +kernel
theorem dX5_readRow_65 : decode cX5_readRow 65 = .ok (.ifCond .eq 9, 3) := by decide +kernel
theorem dX5_readRow_68 : decode cX5_readRow 68 = .ok (.iload 5, 2) := by decide +kernel
theorem dX5_readRow_70 : decode cX5_readRow 70 = .ok (.ineg, 1) := by decide +kernel
theorem dX5_readRow_71 : decode cX5_readRow 71 = .ok (.goto 5, 3) := by decide +kernel
theorem dX5_readRow_74 : decode cX5_readRow 74 = .ok (.iload 5, 2) := by decide +kernel
theorem dX5_readRow_76 : decode cX5_readRow 76 = .ok (.iconst 0, 1) := by decide +kernel
theorem dX5_readRow_77 : decode cX5_readRow 77 = .ok (.invokevirtual 81, 3) := by decide +kernel
theorem dX5_readRow_80 : decode cX5_readRow 80 = .ok (.invokevirtual 85, 3) := by decide +kernel
theorem dX5_readRow_83 : decode cX5_readRow 83 = .ok (.return_, 1) := by decide +kernel
set_option maxRecDepth 20000 in
theorem ggX5_readSetting_X5_settingAt : GoodIn wsX5_readSetting wsX5_settingAt := goodIn_r _ [6, 7, 8, 9, 5, 10, 11, 12, 13, 14, 15, 16, 17, 18, 19, 20, 21, 22, 23, 24, 25, 26, 27, 28, 29, 30, 31, 32, 33, 34, 35, 36, 37, 38, 39, 40, 41, 42, 43, 44, 45, 46, 47, 48, 49, 50, 51, 52, 53, 54, 55, 56, 57, 58, 59, 60, 61, 62, 63, 64, 65, 66, 67, 68, 107, 108, 109, 110, 111, 112, 113] (by decide +kernel) (by decide +kernel)
set_option maxRecDepth 20000 in
theorem gX5_readSetting_X5_settingAt : GoodIn wsX5_readSetting (wsV RX5 91 RX5 yX5_settingAt wsX5_settingAt) := goodIn_app (goodIn_of _ (by decide +kernel)) ggX5_readSetting_X5_settingAt
set_option maxRecDepth 20000 in
theorem ggX5_readSetting_X5_fail : GoodIn wsX5_readSetting wsX5_fail := goodIn_r _ [72, 1, 73, 107, 108, 109, 110, 111] (by decide +kernel) (by decide +kernel)
set_option maxRecDepth 20000 in
theorem gX5_readSetting_X5_fail : GoodIn wsX5_readSetting (wsV RX5 69 RX5 yX5_fail wsX5_fail) := goodIn_app (goodIn_of _ (by decide +kernel)) ggX5_readSetting_X5_fail
set_option maxRecDepth 20000 in
theorem ggX5_readSetting_X7_leastSetting : GoodIn wsX5_readSetting wsX7_leastSetting := goodIn_r _ [76, 77, 78, 79, 75, 80] (by decide +kernel) (by decide +kernel)
set_option maxRecDepth 20000 in
theorem gX5_readSetting_X7_leastSetting_n95 : GoodIn wsX5_readSetting (wsX7_leastSetting) := ggX5_readSetting_X7_leastSetting
set_option maxRecDepth 20000 in
theorem ggX5_readSetting_X7_mostSetting : GoodIn wsX5_readSetting wsX7_mostSetting := goodIn_r _ [82, 83, 78, 79, 75, 80] (by decide +kernel) (by decide +kernel)
set_option maxRecDepth 20000 in
theorem gX5_readSetting_X7_mostSetting_n98 : GoodIn wsX5_readSetting (wsX7_mostSetting) := ggX5_readSetting_X7_mostSetting
set_option maxRecDepth 20000 in
theorem ggX5_readSetting_X5_takeNumber : GoodIn wsX5_readSetting wsX5_takeNumber := goodIn_r _ [87, 11, 88, 12, 89, 90, 91, 92, 93, 94, 95, 96, 5, 97, 25, 26, 27, 28, 29, 30, 31, 98, 99, 100, 69, 70, 71, 72, 1, 73, 107, 108, 109, 110, 111, 112, 113] (by decide +kernel) (by decide +kernel)
set_option maxRecDepth 20000 in
theorem gX5_readSetting_X5_takeNumber : GoodIn wsX5_readSetting (wsV RX5 73 RX5 yX5_takeNumber wsX5_takeNumber) := goodIn_app (goodIn_of _ (by decide +kernel)) ggX5_readSetting_X5_takeNumber
set_option maxRecDepth 20000 in
theorem ggX5_readSetting_X2_putSetting : GoodIn wsX5_readSetting wsX2_putSetting := goodIn_r _ [105, 106, 79, 75, 80, 114, 115, 116, 117, 118, 119, 120, 121] (by decide +kernel) (by decide +kernel)
set_option maxRecDepth 20000 in
theorem gX5_readSetting_X2_putSetting : GoodIn wsX5_readSetting (wsV RX5 101 RX2 yX2_putSetting wsX2_putSetting) := goodIn_app (goodIn_of _ (by decide +kernel)) ggX5_readSetting_X2_putSetting
theorem dX5_readSetting_0 : decode cX5_readSetting 0 = .ok (.aload_n 0, 1) := by decide +kernel
theorem dX5_readSetting_1 : decode cX5_readSetting 1 = .ok (.iload_n 1, 1) := by decide +kernel
theorem dX5_readSetting_2 : decode cX5_readSetting 2 = .ok (.invokevirtual 91, 3) := by decide +kernel
theorem dX5_readSetting_5 : decode cX5_readSetting 5 = .ok (.istore_n 3, 1) := by decide +kernel
theorem dX5_readSetting_6 : decode cX5_readSetting 6 = .ok (.iload_n 3, 1) := by decide +kernel
theorem dX5_readSetting_7 : decode cX5_readSetting 7 = .ok (.iconst (-1), 1) := by decide +kernel
theorem dX5_readSetting_8 : decode cX5_readSetting 8 = .ok (.if_icmp .ne 11, 3) := by decide +kernel
theorem dX5_readSetting_11 : decode cX5_readSetting 11 = .ok (.aload_n 0, 1) := by decide +kernel
theorem dX5_readSetting_12 : decode cX5_readSetting 12 = .ok (.bipush (-2), 2) := by decide +kernel
theorem dX5_readSetting_14 : decode cX5_readSetting 14 = .ok (.iload_n 1, 1) := by decide +kernel
theorem dX5_readSetting_15 : decode cX5_readSetting 15 = .ok (.invokevirtual 69, 3) := by decide +kernel
theorem dX5_readSetting_18 : decode cX5_readSetting 18 = .ok (.return_, 1) := by decide +kernel
theorem dX5_readSetting_19 : decode cX5_readSetting 19 = .ok (.aload_n 0, 1) := by decide +kernel
theorem dX5_readSetting_20 : decode cX5_readSetting 20 = .ok (.iload_n 3, 1) := by decide +kernel
theorem dX5_readSetting_21 : decode cX5_readSetting 21 = .ok (.invokestatic 95, 3) := by decide +kernel
theorem dX5_readSetting_24 : decode cX5_readSetting 24 = .ok (.iload_n 3, 1) := by decide +kernel
theorem dX5_readSetting_25 : decode cX5_readSetting 25 = .ok (.invokestatic 98, 3) := by decide +kernel
theorem dX5_readSetting_28 : decode cX5_readSetting 28 = .ok (.invokevirtual 73, 3) := by decide +kernel
theorem dX5_readSetting_31 : decode cX5_readSetting 31 = .ok (.istore 4, 2) := by decide +kernel
theorem dX5_readSetting_33 : decode cX5_readSetting 33 = .ok (.aload_n 0, 1) := by decide +kernel
theorem dX5_readSetting_34 : decode cX5_readSetting 34 = .ok (.getfield 18, 3) := by decide +kernel
theorem dX5_readSetting_37 : decode cX5_readSetting 37 = .ok (.ifCond .ne 10, 3) := by decide +kernel
theorem dX5_readSetting_40 : decode cX5_readSetting 40 = .ok (.aload_n 2, 1) := by decide +kernel
theorem dX5_readSetting_41 : decode cX5_readSetting 41 = .ok (.iload_n 3, 1) := by decide +kernel
theorem dX5_readSetting_42 : decode cX5_readSetting 42 = .ok (.iload 4, 2) := by decide +kernel
theorem dX5_readSetting_44 : decode cX5_readSetting 44 = .ok (.invokevirtual 101, 3) := by decide +kernel
theorem dX5_readSetting_47 : decode cX5_readSetting 47 = .ok (.return_, 1) := by decide +kernel
set_option maxRecDepth 20000 in
theorem ggX5_settingAt_X5_isWord : GoodIn wsX5_settingAt wsX5_isWord := goodIn_r _ [5, 6, 7, 8, 9, 10, 11, 12, 13, 14, 15, 16, 17, 18, 19, 20, 21, 22, 23, 24, 25, 26, 27, 28, 29, 30, 31, 32, 33, 34, 35, 36, 37, 38, 39, 40, 41, 42, 43, 44, 45, 46, 47, 48, 49, 50, 51, 52, 53, 54, 55, 56, 57, 58, 59, 60, 61, 62, 63, 64, 65, 66, 67, 68, 69, 70] (by decide +kernel) (by decide +kernel)
set_option maxRecDepth 20000 in
theorem gX5_settingAt_X5_isWord : GoodIn wsX5_settingAt (wsV RX5 54 RX5 yX5_isWord wsX5_isWord) := goodIn_app (goodIn_of _ (by decide +kernel)) ggX5_settingAt_X5_isWord
theorem dX5_settingAt_0 : decode cX5_settingAt 0 = .ok (.aload_n 0, 1) := by decide +kernel
theorem dX5_settingAt_1 : decode cX5_settingAt 1 = .ok (.iload_n 1, 1) := by decide +kernel
theorem dX5_settingAt_2 : decode cX5_settingAt 2 = .ok (.ldc 104, 2) := by decide +kernel
theorem dX5_settingAt_4 : decode cX5_settingAt 4 = .ok (.invokevirtual 54, 3) := by decide +kernel
theorem dX5_settingAt_7 : decode cX5_settingAt 7 = .ok (.ifCond .eq 5, 3) := by decide +kernel
theorem dX5_settingAt_10 : decode cX5_settingAt 10 = .ok (.iconst 0, 1) := by decide +kernel
theorem dX5_settingAt_11 : decode cX5_settingAt 11 = .ok (.ireturn, 1) := by decide +kernel
theorem dX5_settingAt_12 : decode cX5_settingAt 12 = .ok (.aload_n 0, 1) := by decide +kernel
theorem dX5_settingAt_13 : decode cX5_settingAt 13 = .ok (.iload_n 1, 1) := by decide +kernel
theorem dX5_settingAt_14 : decode cX5_settingAt 14 = .ok (.ldc 106, 2) := by decide +kernel
theorem dX5_settingAt_16 : decode cX5_settingAt 16 = .ok (.invokevirtual 54, 3) := by decide +kernel
theorem dX5_settingAt_19 : decode cX5_settingAt 19 = .ok (.ifCond .eq 5, 3) := by decide +kernel
theorem dX5_settingAt_22 : decode cX5_settingAt 22 = .ok (.iconst 1, 1) := by decide +kernel
theorem dX5_settingAt_23 : decode cX5_settingAt 23 = .ok (.ireturn, 1) := by decide +kernel
theorem dX5_settingAt_24 : decode cX5_settingAt 24 = .ok (.aload_n 0, 1) := by decide +kernel
theorem dX5_settingAt_25 : decode cX5_settingAt 25 = .ok (.iload_n 1, 1) := by decide +kernel
theorem dX5_settingAt_26 : decode cX5_settingAt 26 = .ok (.ldc 108, 2) := by decide +kernel
theorem dX5_settingAt_28 : decode cX5_settingAt 28 = .ok (.invokevirtual 54, 3) := by decide +kernel
theorem dX5_settingAt_31 : decode cX5_settingAt 31 = .ok (.ifCond .eq 5, 3) := by decide +kernel
theorem dX5_settingAt_34 : decode cX5_settingAt 34 = .ok (.iconst 2, 1) := by decide +kernel
theorem dX5_settingAt_35 : decode cX5_settingAt 35 = .ok (.ireturn, 1) := by decide +kernel
theorem dX5_settingAt_36 : decode cX5_settingAt 36 = .ok (.aload_n 0, 1) := by decide +kernel
theorem dX5_settingAt_37 : decode cX5_settingAt 37 = .ok (.iload_n 1, 1) := by decide +kernel
theorem dX5_settingAt_38 : decode cX5_settingAt 38 = .ok (.ldc 110, 2) := by decide +kernel
theorem dX5_settingAt_40 : decode cX5_settingAt 40 = .ok (.invokevirtual 54, 3) := by decide +kernel
theorem dX5_settingAt_43 : decode cX5_settingAt 43 = .ok (.ifCond .eq 7, 3) := by decide +kernel
theorem dX5_settingAt_46 : decode cX5_settingAt 46 = .ok (.iconst 3, 1) := by decide +kernel
theorem dX5_settingAt_47 : decode cX5_settingAt 47 = .ok (.goto 4, 3) := by decide +kernel
theorem dX5_settingAt_50 : decode cX5_settingAt 50 = .ok (.iconst (-1), 1) := by decide +kernel
theorem dX5_settingAt_51 : decode cX5_settingAt 51 = .ok (.ireturn, 1) := by decide +kernel
set_option maxRecDepth 20000 in
theorem ggX5_skipWord_X1_byteAt : GoodIn wsX5_skipWord wsX1_byteAt := goodIn_r _ [8, 9, 10, 16, 17] (by decide +kernel) (by decide +kernel)
set_option maxRecDepth 20000 in
theorem gX5_skipWord_X1_byteAt : GoodIn wsX5_skipWord (wsV RX5 112 RX1 yX1_byteAt wsX1_byteAt) := goodIn_app (goodIn_of _ (by decide +kernel)) ggX5_skipWord_X1_byteAt
theorem dX5_skipWord_0 : decode cX5_skipWord 0 = .ok (.aload_n 0, 1) := by decide +kernel
theorem dX5_skipWord_1 : decode cX5_skipWord 1 = .ok (.getfield 15, 3) := by decide +kernel
theorem dX5_skipWord_4 : decode cX5_skipWord 4 = .ok (.aload_n 0, 1) := by decide +kernel
theorem dX5_skipWord_5 : decode cX5_skipWord 5 = .ok (.getfield 9, 3) := by decide +kernel
theorem dX5_skipWord_8 : decode cX5_skipWord 8 = .ok (.if_icmp .ge 48, 3) := by decide +kernel
theorem dX5_skipWord_11 : decode cX5_skipWord 11 = .ok (.aload_n 0, 1) := by decide +kernel
theorem dX5_skipWord_12 : decode cX5_skipWord 12 = .ok (.getfield 24, 3) := by decide +kernel
theorem dX5_skipWord_15 : decode cX5_skipWord 15 = .ok (.aload_n 0, 1) := by decide +kernel
theorem dX5_skipWord_16 : decode cX5_skipWord 16 = .ok (.getfield 15, 3) := by decide +kernel
theorem dX5_skipWord_19 : decode cX5_skipWord 19 = .ok (.invokevirtual 112, 3) := by decide +kernel
theorem dX5_skipWord_22 : decode cX5_skipWord 22 = .ok (.bipush 97, 2) := by decide +kernel
theorem dX5_skipWord_24 : decode cX5_skipWord 24 = .ok (.if_icmp .lt 32, 3) := by decide +kernel
theorem dX5_skipWord_27 : decode cX5_skipWord 27 = .ok (.aload_n 0, 1) := by decide +kernel
theorem dX5_skipWord_28 : decode cX5_skipWord 28 = .ok (.getfield 24, 3) := by decide +kernel
theorem dX5_skipWord_31 : decode cX5_skipWord 31 = .ok (.aload_n 0, 1) := by decide +kernel
theorem dX5_skipWord_32 : decode cX5_skipWord 32 = .ok (.getfield 15, 3) := by decide +kernel
theorem dX5_skipWord_35 : decode cX5_skipWord 35 = .ok (.invokevirtual 112, 3) := by decide +kernel
theorem dX5_skipWord_38 : decode cX5_skipWord 38 = .ok (.bipush 122, 2) := by decide +kernel
theorem dX5_skipWord_40 : decode cX5_skipWord 40 = .ok (.if_icmp .gt 16, 3) := by decide +kernel
theorem dX5_skipWord_43 : decode cX5_skipWord 43 = .ok (.aload_n 0, 1) := by decide +kernel
theorem dX5_skipWord_44 : decode cX5_skipWord 44 = .ok (.dup, 1) := by decide +kernel
theorem dX5_skipWord_45 : decode cX5_skipWord 45 = .ok (.getfield 15, 3) := by decide +kernel
theorem dX5_skipWord_48 : decode cX5_skipWord 48 = .ok (.iconst 1, 1) := by decide +kernel
theorem dX5_skipWord_49 : decode cX5_skipWord 49 = .ok (.iadd, 1) := by decide +kernel
theorem dX5_skipWord_50 : decode cX5_skipWord 50 = .ok (.putfield 15, 3) := by decide +kernel
theorem dX5_skipWord_53 : decode cX5_skipWord 53 = .ok (.goto (-53), 3) := by decide +kernel
theorem dX5_skipWord_56 : decode cX5_skipWord 56 = .ok (.return_, 1) := by decide +kernel
set_option maxRecDepth 20000 in
theorem ggX5_skipSpaces_X1_byteAt : GoodIn wsX5_skipSpaces wsX1_byteAt := goodIn_r _ [8, 9, 10, 16, 17] (by decide +kernel) (by decide +kernel)
set_option maxRecDepth 20000 in
theorem gX5_skipSpaces_X1_byteAt : GoodIn wsX5_skipSpaces (wsV RX5 112 RX1 yX1_byteAt wsX1_byteAt) := goodIn_app (goodIn_of _ (by decide +kernel)) ggX5_skipSpaces_X1_byteAt
theorem dX5_skipSpaces_0 : decode cX5_skipSpaces 0 = .ok (.aload_n 0, 1) := by decide +kernel
theorem dX5_skipSpaces_1 : decode cX5_skipSpaces 1 = .ok (.getfield 15, 3) := by decide +kernel
theorem dX5_skipSpaces_4 : decode cX5_skipSpaces 4 = .ok (.aload_n 0, 1) := by decide +kernel
theorem dX5_skipSpaces_5 : decode cX5_skipSpaces 5 = .ok (.getfield 9, 3) := by decide +kernel
theorem dX5_skipSpaces_8 : decode cX5_skipSpaces 8 = .ok (.if_icmp .ge 32, 3) := by decide +kernel
theorem dX5_skipSpaces_11 : decode cX5_skipSpaces 11 = .ok (.aload_n 0, 1) := by decide +kernel
theorem dX5_skipSpaces_12 : decode cX5_skipSpaces 12 = .ok (.getfield 24, 3) := by decide +kernel
theorem dX5_skipSpaces_15 : decode cX5_skipSpaces 15 = .ok (.aload_n 0, 1) := by decide +kernel
theorem dX5_skipSpaces_16 : decode cX5_skipSpaces 16 = .ok (.getfield 15, 3) := by decide +kernel
theorem dX5_skipSpaces_19 : decode cX5_skipSpaces 19 = .ok (.invokevirtual 112, 3) := by decide +kernel
theorem dX5_skipSpaces_22 : decode cX5_skipSpaces 22 = .ok (.bipush 32, 2) := by decide +kernel
theorem dX5_skipSpaces_24 : decode cX5_skipSpaces 24 = .ok (.if_icmp .ne 16, 3) := by decide +kernel
theorem dX5_skipSpaces_27 : decode cX5_skipSpaces 27 = .ok (.aload_n 0, 1) := by decide +kernel
theorem dX5_skipSpaces_28 : decode cX5_skipSpaces 28 = .ok (.dup, 1) := by decide +kernel
theorem dX5_skipSpaces_29 : decode cX5_skipSpaces 29 = .ok (.getfield 15, 3) := by decide +kernel
theorem dX5_skipSpaces_32 : decode cX5_skipSpaces 32 = .ok (.iconst 1, 1) := by decide +kernel
theorem dX5_skipSpaces_33 : decode cX5_skipSpaces 33 = .ok (.iadd, 1) := by decide +kernel
theorem dX5_skipSpaces_34 : decode cX5_skipSpaces 34 = .ok (.putfield 15, 3) := by decide +kernel
theorem dX5_skipSpaces_37 : decode cX5_skipSpaces 37 = .ok (.goto (-37), 3) := by decide +kernel
theorem dX5_skipSpaces_40 : decode cX5_skipSpaces 40 = .ok (.return_, 1) := by decide +kernel
set_option maxRecDepth 20000 in
theorem ggX5_isWord_J0_length_8abf5 : GoodIn wsX5_isWord wsJ0_length_8abf5 := goodIn_r _ [7, 8, 9, 10, 11, 6, 12, 13, 14] (by decide +kernel) (by decide +kernel)
set_option maxRecDepth 20000 in
theorem gX5_isWord_J0_length_8abf5 : GoodIn wsX5_isWord (wsV RX5 117 RJ0 yJ0_length_8abf5 wsJ0_length_8abf5) := goodIn_app (goodIn_of _ (by decide +kernel)) ggX5_isWord_J0_length_8abf5
set_option maxRecDepth 20000 in
theorem ggX5_isWord_X1_byteAt : GoodIn wsX5_isWord wsX1_byteAt := goodIn_r _ [19, 20, 21, 64, 65] (by decide +kernel) (by decide +kernel)
set_option maxRecDepth 20000 in
theorem gX5_isWord_X1_byteAt : GoodIn wsX5_isWord (wsV RX5 112 RX1 yX1_byteAt wsX1_byteAt) := goodIn_app (goodIn_of _ (by decide +kernel)) ggX5_isWord_X1_byteAt
set_option maxRecDepth 20000 in
theorem ggX5_isWord_J0_charAt_5068e : GoodIn wsX5_isWord wsJ0_charAt_5068e := goodIn_r _ [25, 8, 26, 27, 28, 6, 29, 13, 14, 30, 31, 32, 33, 34, 35, 36, 37, 38, 39, 40, 41, 42, 43, 44, 45, 46, 47, 48, 49, 50, 51, 52, 53, 54, 55, 56, 57, 58] (by decide +kernel) (by decide +kernel)
set_option maxRecDepth 20000 in
theorem gX5_isWord_J0_charAt_5068e : GoodIn wsX5_isWord (wsV RX5 122 RJ0 yJ0_charAt_5068e wsJ0_charAt_5068e) := goodIn_app (goodIn_of _ (by decide +kernel)) ggX5_isWord_J0_charAt_5068e
theorem dX5_isWord_0 : decode cX5_isWord 0 = .ok (.aload_n 0, 1) := by decide +kernel
theorem dX5_isWord_1 : decode cX5_isWord 1 = .ok (.getfield 15, 3) := by decide +kernel
theorem dX5_isWord_4 : decode cX5_isWord 4 = .ok (.iload_n 1, 1) := by decide +kernel
theorem dX5_isWord_5 : decode cX5_isWord 5 = .ok (.isub, 1) := by decide +kernel
theorem dX5_isWord_6 : decode cX5_isWord 6 = .ok (.aload_n 2, 1) := by decide +kernel
theorem dX5_isWord_7 : decode cX5_isWord 7 = .ok (.invokevirtual 117, 3) := by decide +kernel
theorem dX5_isWord_10 : decode cX5_isWord 10 = .ok (.if_icmp .eq 5, 3) := by decide +kernel
theorem dX5_isWord_13 : decode cX5_isWord 13 = .ok (.iconst 0, 1) := by decide +kernel
theorem dX5_isWord_14 : decode cX5_isWord 14 = .ok (.ireturn, 1) := by decide +kernel
theorem dX5_isWord_15 : decode cX5_isWord 15 = .ok (.iconst 0, 1) := by decide +kernel
theorem dX5_isWord_16 : decode cX5_isWord 16 = .ok (.istore_n 3, 1) := by decide +kernel
theorem dX5_isWord_17 : decode cX5_isWord 17 = .ok (.iload_n 3, 1) := by decide +kernel
theorem dX5_isWord_18 : decode cX5_isWord 18 = .ok (.aload_n 2, 1) := by decide +kernel
theorem dX5_isWord_19 : decode cX5_isWord 19 = .ok (.invokevirtual 117, 3) := by decide +kernel
theorem dX5_isWord_22 : decode cX5_isWord 22 = .ok (.if_icmp .ge 29, 3) := by decide +kernel
theorem dX5_isWord_25 : decode cX5_isWord 25 = .ok (.aload_n 0, 1) := by decide +kernel
theorem dX5_isWord_26 : decode cX5_isWord 26 = .ok (.getfield 24, 3) := by decide +kernel
theorem dX5_isWord_29 : decode cX5_isWord 29 = .ok (.iload_n 1, 1) := by decide +kernel
theorem dX5_isWord_30 : decode cX5_isWord 30 = .ok (.iload_n 3, 1) := by decide +kernel
theorem dX5_isWord_31 : decode cX5_isWord 31 = .ok (.iadd, 1) := by decide +kernel
theorem dX5_isWord_32 : decode cX5_isWord 32 = .ok (.invokevirtual 112, 3) := by decide +kernel
theorem dX5_isWord_35 : decode cX5_isWord 35 = .ok (.aload_n 2, 1) := by decide +kernel
theorem dX5_isWord_36 : decode cX5_isWord 36 = .ok (.iload_n 3, 1) := by decide +kernel
theorem dX5_isWord_37 : decode cX5_isWord 37 = .ok (.invokevirtual 122, 3) := by decide +kernel
theorem dX5_isWord_40 : decode cX5_isWord 40 = .ok (.if_icmp .eq 5, 3) := by decide +kernel
theorem dX5_isWord_43 : decode cX5_isWord 43 = .ok (.iconst 0, 1) := by decide +kernel
theorem dX5_isWord_44 : decode cX5_isWord 44 = .ok (.ireturn, 1) := by decide +kernel
theorem dX5_isWord_45 : decode cX5_isWord 45 = .ok (.iinc 3 1, 3) := by decide +kernel
theorem dX5_isWord_48 : decode cX5_isWord 48 = .ok (.goto (-31), 3) := by decide +kernel
theorem dX5_isWord_51 : decode cX5_isWord 51 = .ok (.iconst 1, 1) := by decide +kernel
theorem dX5_isWord_52 : decode cX5_isWord 52 = .ok (.ireturn, 1) := by decide +kernel
set_option maxRecDepth 20000 in
theorem ggX5_takeSign_X5_skipSpaces : GoodIn wsX5_takeSign wsX5_skipSpaces := goodIn_r _ [8, 1, 2, 3, 9, 10, 11, 12, 13, 14, 15, 22, 23, 24, 25, 26, 27, 28] (by decide +kernel) (by decide +kernel)
set_option maxRecDepth 20000 in
theorem gX5_takeSign_X5_skipSpaces : GoodIn wsX5_takeSign (wsV RX5 33 RX5 yX5_skipSpaces wsX5_skipSpaces) := goodIn_app (goodIn_of _ (by decide +kernel)) ggX5_takeSign_X5_skipSpaces
set_option maxRecDepth 20000 in
theorem ggX5_takeSign_X1_byteAt : GoodIn wsX5_takeSign wsX1_byteAt := goodIn_r _ [13, 14, 15, 27, 28] (by decide +kernel) (by decide +kernel)
set_option maxRecDepth 20000 in
theorem gX5_takeSign_X1_byteAt : GoodIn wsX5_takeSign (wsV RX5 112 RX1 yX1_byteAt wsX1_byteAt) := goodIn_app (goodIn_of _ (by decide +kernel)) ggX5_takeSign_X1_byteAt
set_option maxRecDepth 20000 in
theorem ggX5_takeSign_X5_fail : GoodIn wsX5_takeSign wsX5_fail := goodIn_r _ [19, 20, 21, 22, 23, 24, 25, 26] (by decide +kernel) (by decide +kernel)
set_option maxRecDepth 20000 in
theorem gX5_takeSign_X5_fail : GoodIn wsX5_takeSign (wsV RX5 69 RX5 yX5_fail wsX5_fail) := goodIn_app (goodIn_of _ (by decide +kernel)) ggX5_takeSign_X5_fail
theorem dX5_takeSign_0 : decode cX5_takeSign 0 = .ok (.aload_n 0, 1) := by decide +kernel
theorem dX5_takeSign_1 : decode cX5_takeSign 1 = .ok (.invokevirtual 33, 3) := by decide +kernel
theorem dX5_takeSign_4 : decode cX5_takeSign 4 = .ok (.aload_n 0, 1) := by decide +kernel
theorem dX5_takeSign_5 : decode cX5_takeSign 5 = .ok (.getfield 15, 3) := by decide +kernel
theorem dX5_takeSign_8 : decode cX5_takeSign 8 = .ok (.aload_n 0, 1) := by decide +kernel
theorem dX5_takeSign_9 : decode cX5_takeSign 9 = .ok (.getfield 9, 3) := by decide +kernel
theorem dX5_takeSign_12 : decode cX5_takeSign 12 = .ok (.if_icmp .ge 30, 3) := by decide +kernel
theorem dX5_takeSign_15 : decode cX5_takeSign 15 = .ok (.aload_n 0, 1) := by decide +kernel
theorem dX5_takeSign_16 : decode cX5_takeSign 16 = .ok (.getfield 24, 3) := by decide +kernel
theorem dX5_takeSign_19 : decode cX5_takeSign 19 = .ok (.aload_n 0, 1) := by decide +kernel
theorem dX5_takeSign_20 : decode cX5_takeSign 20 = .ok (.getfield 15, 3) := by decide +kernel
theorem dX5_takeSign_23 : decode cX5_takeSign 23 = .ok (.invokevirtual 112, 3) := by decide +kernel
theorem dX5_takeSign_26 : decode cX5_takeSign 26 = .ok (.iload_n 1, 1) := by decide +kernel
theorem dX5_takeSign_27 : decode cX5_takeSign 27 = .ok (.if_icmp .ne 15, 3) := by decide +kernel
theorem dX5_takeSign_30 : decode cX5_takeSign 30 = .ok (.aload_n 0, 1) := by decide +kernel
theorem dX5_takeSign_31 : decode cX5_takeSign 31 = .ok (.dup, 1) := by decide +kernel
theorem dX5_takeSign_32 : decode cX5_takeSign 32 = .ok (.getfield 15, 3) := by decide +kernel
theorem dX5_takeSign_35 : decode cX5_takeSign 35 = .ok (.iconst 1, 1) := by decide +kernel
theorem dX5_takeSign_36 : decode cX5_takeSign 36 = .ok (.iadd, 1) := by decide +kernel
theorem dX5_takeSign_37 : decode cX5_takeSign 37 = .ok (.putfield 15, 3) := by decide +kernel
theorem dX5_takeSign_40 : decode cX5_takeSign 40 = .ok (.iconst 1, 1) := by decide +kernel
theorem dX5_takeSign_41 : decode cX5_takeSign 41 = .ok (.ireturn, 1) := by decide +kernel
theorem dX5_takeSign_42 : decode cX5_takeSign 42 = .ok (.iload_n 2, 1) := by decide +kernel
theorem dX5_takeSign_43 : decode cX5_takeSign 43 = .ok (.ifCond .eq 13, 3) := by decide +kernel
theorem dX5_takeSign_46 : decode cX5_takeSign 46 = .ok (.aload_n 0, 1) := by decide +kernel
theorem dX5_takeSign_47 : decode cX5_takeSign 47 = .ok (.bipush (-2), 2) := by decide +kernel
theorem dX5_takeSign_49 : decode cX5_takeSign 49 = .ok (.aload_n 0, 1) := by decide +kernel
theorem dX5_takeSign_50 : decode cX5_takeSign 50 = .ok (.getfield 15, 3) := by decide +kernel
theorem dX5_takeSign_53 : decode cX5_takeSign 53 = .ok (.invokevirtual 69, 3) := by decide +kernel
theorem dX5_takeSign_56 : decode cX5_takeSign 56 = .ok (.iconst 0, 1) := by decide +kernel
theorem dX5_takeSign_57 : decode cX5_takeSign 57 = .ok (.ireturn, 1) := by decide +kernel
set_option maxRecDepth 20000 in
theorem ggX5_takeNumber_X5_skipSpaces : GoodIn wsX5_takeNumber wsX5_skipSpaces := goodIn_r _ [13, 1, 2, 3, 14, 15, 16, 17, 18, 19, 20, 30, 31, 32, 33, 34, 35, 36] (by decide +kernel) (by decide +kernel)
set_option maxRecDepth 20000 in
theorem gX5_takeNumber_X5_skipSpaces : GoodIn wsX5_takeNumber (wsV RX5 33 RX5 yX5_skipSpaces wsX5_skipSpaces) := goodIn_app (goodIn_of _ (by decide +kernel)) ggX5_takeNumber_X5_skipSpaces
set_option maxRecDepth 20000 in
theorem ggX5_takeNumber_X1_byteAt : GoodIn wsX5_takeNumber wsX1_byteAt := goodIn_r _ [18, 19, 20, 35, 36] (by decide +kernel) (by decide +kernel)
set_option maxRecDepth 20000 in
theorem gX5_takeNumber_X1_byteAt : GoodIn wsX5_takeNumber (wsV RX5 112 RX1 yX1_byteAt wsX1_byteAt) := goodIn_app (goodIn_of _ (by decide +kernel)) ggX5_takeNumber_X1_byteAt
set_option maxRecDepth 20000 in
theorem ggX5_takeNumber_X5_isDigit : GoodIn wsX5_takeNumber wsX5_isDigit := goodIn_r _ [23] (by decide +kernel) (by decide +kernel)
set_option maxRecDepth 20000 in
theorem gX5_takeNumber_X5_isDigit : GoodIn wsX5_takeNumber (va_wsS RX5 126 yX5_isDigit wsX5_isDigit) := goodIn_app (goodIn_of _ (by decide +kernel)) ggX5_takeNumber_X5_isDigit
set_option maxRecDepth 20000 in
theorem ggX5_takeNumber_X5_fail : GoodIn wsX5_takeNumber wsX5_fail := goodIn_r _ [27, 28, 29, 30, 31, 32, 33, 34] (by decide +kernel) (by decide +kernel)
set_option maxRecDepth 20000 in
theorem gX5_takeNumber_X5_fail : GoodIn wsX5_takeNumber (wsV RX5 69 RX5 yX5_fail wsX5_fail) := goodIn_app (goodIn_of _ (by decide +kernel)) ggX5_takeNumber_X5_fail
theorem dX5_takeNumber_0 : decode cX5_takeNumber 0 = .ok (.aload_n 0, 1) := by decide +kernel
theorem dX5_takeNumber_1 : decode cX5_takeNumber 1 = .ok (.invokevirtual 33, 3) := by decide +kernel
theorem dX5_takeNumber_4 : decode cX5_takeNumber 4 = .ok (.aload_n 0, 1) := by decide +kernel
theorem dX5_takeNumber_5 : decode cX5_takeNumber 5 = .ok (.getfield 15, 3) := by decide +kernel
theorem dX5_takeNumber_8 : decode cX5_takeNumber 8 = .ok (.istore_n 3, 1) := by decide +kernel
theorem dX5_takeNumber_9 : decode cX5_takeNumber 9 = .ok (.iconst 0, 1) := by decide +kernel
theorem dX5_takeNumber_10 : decode cX5_takeNumber 10 = .ok (.istore 4, 2) := by decide +kernel
theorem dX5_takeNumber_12 : decode cX5_takeNumber 12 = .ok (.aload_n 0, 1) := by decide +kernel
theorem dX5_takeNumber_13 : decode cX5_takeNumber 13 = .ok (.getfield 15, 3) := by decide +kernel
theorem dX5_takeNumber_16 : decode cX5_takeNumber 16 = .ok (.aload_n 0, 1) := by decide +kernel
theorem dX5_takeNumber_17 : decode cX5_takeNumber 17 = .ok (.getfield 9, 3) := by decide +kernel
theorem dX5_takeNumber_20 : decode cX5_takeNumber 20 = .ok (.if_icmp .ge 60, 3) := by decide +kernel
theorem dX5_takeNumber_23 : decode cX5_takeNumber 23 = .ok (.aload_n 0, 1) := by decide +kernel
theorem dX5_takeNumber_24 : decode cX5_takeNumber 24 = .ok (.getfield 24, 3) := by decide +kernel
theorem dX5_takeNumber_27 : decode cX5_takeNumber 27 = .ok (.aload_n 0, 1) := by decide +kernel
theorem dX5_takeNumber_28 : decode cX5_takeNumber 28 = .ok (.getfield 15, 3) := by decide +kernel
theorem dX5_takeNumber_31 : decode cX5_takeNumber 31 = .ok (.invokevirtual 112, 3) := by decide +kernel
theorem dX5_takeNumber_34 : decode cX5_takeNumber 34 = .ok (.invokestatic 126, 3) := by decide +kernel
theorem dX5_takeNumber_37 : decode cX5_takeNumber 37 = .ok (.ifCond .eq 43, 3) := by decide +kernel
theorem dX5_takeNumber_40 : decode cX5_takeNumber 40 = .ok (.iload 4, 2) := by decide +kernel
theorem dX5_takeNumber_42 : decode cX5_takeNumber 42 = .ok (.bipush 10, 2) := by decide +kernel
theorem dX5_takeNumber_44 : decode cX5_takeNumber 44 = .ok (.imul, 1) := by decide +kernel
theorem dX5_takeNumber_45 : decode cX5_takeNumber 45 = .ok (.aload_n 0, 1) := by decide +kernel
theorem dX5_takeNumber_46 : decode cX5_takeNumber 46 = .ok (.getfield 24, 3) := by decide +kernel
theorem dX5_takeNumber_49 : decode cX5_takeNumber 49 = .ok (.aload_n 0, 1) := by decide +kernel
theorem dX5_takeNumber_50 : decode cX5_takeNumber 50 = .ok (.getfield 15, 3) := by decide +kernel
theorem dX5_takeNumber_53 : decode cX5_takeNumber 53 = .ok (.invokevirtual 112, 3) := by decide +kernel
theorem dX5_takeNumber_56 : decode cX5_takeNumber 56 = .ok (.iadd, 1) := by decide +kernel
theorem dX5_takeNumber_57 : decode cX5_takeNumber 57 = .ok (.bipush 48, 2) := by decide +kernel
theorem dX5_takeNumber_59 : decode cX5_takeNumber 59 = .ok (.isub, 1) := by decide +kernel
theorem dX5_takeNumber_60 : decode cX5_takeNumber 60 = .ok (.ldc 130, 2) := by decide +kernel
theorem dX5_takeNumber_62 : decode cX5_takeNumber 62 = .ok (.invokestatic 131, 3) := by decide +kernel
theorem dX5_takeNumber_65 : decode cX5_takeNumber 65 = .ok (.istore 4, 2) := by decide +kernel
theorem dX5_takeNumber_67 : decode cX5_takeNumber 67 = .ok (.aload_n 0, 1) := by decide +kernel
theorem dX5_takeNumber_68 : decode cX5_takeNumber 68 = .ok (.dup, 1) := by decide +kernel
theorem dX5_takeNumber_69 : decode cX5_takeNumber 69 = .ok (.getfield 15, 3) := by decide +kernel
theorem dX5_takeNumber_72 : decode cX5_takeNumber 72 = .ok (.iconst 1, 1) := by decide +kernel
theorem dX5_takeNumber_73 : decode cX5_takeNumber 73 = .ok (.iadd, 1) := by decide +kernel
theorem dX5_takeNumber_74 : decode cX5_takeNumber 74 = .ok (.putfield 15, 3) := by decide +kernel
theorem dX5_takeNumber_77 : decode cX5_takeNumber 77 = .ok (.goto (-65), 3) := by decide +kernel
theorem dX5_takeNumber_80 : decode cX5_takeNumber 80 = .ok (.aload_n 0, 1) := by decide +kernel
theorem dX5_takeNumber_81 : decode cX5_takeNumber 81 = .ok (.getfield 15, 3) := by decide +kernel
theorem dX5_takeNumber_84 : decode cX5_takeNumber 84 = .ok (.iload_n 3, 1) := by decide +kernel
theorem dX5_takeNumber_85 : decode cX5_takeNumber 85 = .ok (.if_icmp .ne 13, 3) := by decide +kernel
theorem dX5_takeNumber_88 : decode cX5_takeNumber 88 = .ok (.aload_n 0, 1) := by decide +kernel
theorem dX5_takeNumber_89 : decode cX5_takeNumber 89 = .ok (.bipush (-2), 2) := by decide +kernel
theorem dX5_takeNumber_91 : decode cX5_takeNumber 91 = .ok (.iload_n 3, 1) := by decide +kernel
theorem dX5_takeNumber_92 : decode cX5_takeNumber 92 = .ok (.invokevirtual 69, 3) := by decide +kernel
theorem dX5_takeNumber_95 : decode cX5_takeNumber 95 = .ok (.goto 22, 3) := by decide +kernel
theorem dX5_takeNumber_98 : decode cX5_takeNumber 98 = .ok (.iload 4, 2) := by decide +kernel
theorem dX5_takeNumber_100 : decode cX5_takeNumber 100 = .ok (.iload_n 1, 1) := by decide +kernel
theorem dX5_takeNumber_101 : decode cX5_takeNumber 101 = .ok (.if_icmp .lt 9, 3) := by decide +kernel
theorem dX5_takeNumber_104 : decode cX5_takeNumber 104 = .ok (.iload 4, 2) := by decide +kernel
theorem dX5_takeNumber_106 : decode cX5_takeNumber 106 = .ok (.iload_n 2, 1) := by decide +kernel
theorem dX5_takeNumber_107 : decode cX5_takeNumber 107 = .ok (.if_icmp .le 10, 3) := by decide +kernel
theorem dX5_takeNumber_110 : decode cX5_takeNumber 110 = .ok (.aload_n 0, 1) := by decide +kernel
theorem dX5_takeNumber_111 : decode cX5_takeNumber 111 = .ok (.bipush (-3), 2) := by decide +kernel
theorem dX5_takeNumber_113 : decode cX5_takeNumber 113 = .ok (.iload_n 3, 1) := by decide +kernel
theorem dX5_takeNumber_114 : decode cX5_takeNumber 114 = .ok (.invokevirtual 69, 3) := by decide +kernel
theorem dX5_takeNumber_117 : decode cX5_takeNumber 117 = .ok (.iload 4, 2) := by decide +kernel
theorem dX5_takeNumber_119 : decode cX5_takeNumber 119 = .ok (.ireturn, 1) := by decide +kernel
theorem dX5_isDigit_0 : decode cX5_isDigit 0 = .ok (.iload_n 0, 1) := by decide +kernel
theorem dX5_isDigit_1 : decode cX5_isDigit 1 = .ok (.bipush 48, 2) := by decide +kernel
theorem dX5_isDigit_3 : decode cX5_isDigit 3 = .ok (.if_icmp .lt 13, 3) := by decide +kernel
theorem dX5_isDigit_6 : decode cX5_isDigit 6 = .ok (.iload_n 0, 1) := by decide +kernel
theorem dX5_isDigit_7 : decode cX5_isDigit 7 = .ok (.bipush 57, 2) := by decide +kernel
theorem dX5_isDigit_9 : decode cX5_isDigit 9 = .ok (.if_icmp .gt 7, 3) := by decide +kernel
theorem dX5_isDigit_12 : decode cX5_isDigit 12 = .ok (.iconst 1, 1) := by decide +kernel
theorem dX5_isDigit_13 : decode cX5_isDigit 13 = .ok (.goto 4, 3) := by decide +kernel
theorem dX5_isDigit_16 : decode cX5_isDigit 16 = .ok (.iconst 0, 1) := by decide +kernel
theorem dX5_isDigit_17 : decode cX5_isDigit 17 = .ok (.ireturn, 1) := by decide +kernel
theorem dX5_fail_0 : decode cX5_fail 0 = .ok (.aload_n 0, 1) := by decide +kernel
theorem dX5_fail_1 : decode cX5_fail 1 = .ok (.getfield 18, 3) := by decide +kernel
theorem dX5_fail_4 : decode cX5_fail 4 = .ok (.ifCond .ne 13, 3) := by decide +kernel
theorem dX5_fail_7 : decode cX5_fail 7 = .ok (.aload_n 0, 1) := by decide +kernel
theorem dX5_fail_8 : decode cX5_fail 8 = .ok (.iload_n 1, 1) := by decide +kernel
theorem dX5_fail_9 : decode cX5_fail 9 = .ok (.putfield 18, 3) := by decide +kernel
theorem dX5_fail_12 : decode cX5_fail 12 = .ok (.aload_n 0, 1) := by decide +kernel
theorem dX5_fail_13 : decode cX5_fail 13 = .ok (.iload_n 2, 1) := by decide +kernel
theorem dX5_fail_14 : decode cX5_fail 14 = .ok (.putfield 21, 3) := by decide +kernel
theorem dX5_fail_17 : decode cX5_fail 17 = .ok (.return_, 1) := by decide +kernel
theorem dX6_init_0 : decode cX6_init 0 = .ok (.aload_n 0, 1) := by decide +kernel
theorem dX6_init_1 : decode cX6_init 1 = .ok (.invokespecial 3, 3) := by decide +kernel
theorem dX6_init_4 : decode cX6_init 4 = .ok (.aload_n 0, 1) := by decide +kernel
theorem dX6_init_5 : decode cX6_init 5 = .ok (.bipush 120, 2) := by decide +kernel
theorem dX6_init_7 : decode cX6_init 7 = .ok (.newarray .int, 2) := by decide +kernel
theorem dX6_init_9 : decode cX6_init 9 = .ok (.putfield 9, 3) := by decide +kernel
theorem dX6_init_12 : decode cX6_init 12 = .ok (.aload_n 0, 1) := by decide +kernel
theorem dX6_init_13 : decode cX6_init 13 = .ok (.bipush 120, 2) := by decide +kernel
theorem dX6_init_15 : decode cX6_init 15 = .ok (.newarray .int, 2) := by decide +kernel
theorem dX6_init_17 : decode cX6_init 17 = .ok (.putfield 15, 3) := by decide +kernel
theorem dX6_init_20 : decode cX6_init 20 = .ok (.aload_n 0, 1) := by decide +kernel
theorem dX6_init_21 : decode cX6_init 21 = .ok (.bipush 120, 2) := by decide +kernel
theorem dX6_init_23 : decode cX6_init 23 = .ok (.newarray .int, 2) := by decide +kernel
theorem dX6_init_25 : decode cX6_init 25 = .ok (.putfield 18, 3) := by decide +kernel
theorem dX6_init_28 : decode cX6_init 28 = .ok (.aload_n 0, 1) := by decide +kernel
theorem dX6_init_29 : decode cX6_init 29 = .ok (.iconst 0, 1) := by decide +kernel
theorem dX6_init_30 : decode cX6_init 30 = .ok (.putfield 21, 3) := by decide +kernel
theorem dX6_init_33 : decode cX6_init 33 = .ok (.return_, 1) := by decide +kernel
set_option maxRecDepth 20000 in
theorem ggX6_become_X7_copyAll : GoodIn wsX6_become wsX7_copyAll := goodIn_r _ [7, 8, 9, 10, 11, 12, 13, 14, 15] (by decide +kernel) (by decide +kernel)
set_option maxRecDepth 20000 in
theorem gX6_become_X7_copyAll_n25 : GoodIn wsX6_become (wsX7_copyAll) := ggX6_become_X7_copyAll
theorem dX6_become_0 : decode cX6_become 0 = .ok (.aload_n 1, 1) := by decide +kernel
theorem dX6_become_1 : decode cX6_become 1 = .ok (.getfield 9, 3) := by decide +kernel
theorem dX6_become_4 : decode cX6_become 4 = .ok (.aload_n 0, 1) := by decide +kernel
theorem dX6_become_5 : decode cX6_become 5 = .ok (.getfield 9, 3) := by decide +kernel
theorem dX6_become_8 : decode cX6_become 8 = .ok (.invokestatic 25, 3) := by decide +kernel
theorem dX6_become_11 : decode cX6_become 11 = .ok (.aload_n 1, 1) := by decide +kernel
theorem dX6_become_12 : decode cX6_become 12 = .ok (.getfield 15, 3) := by decide +kernel
theorem dX6_become_15 : decode cX6_become 15 = .ok (.aload_n 0, 1) := by decide +kernel
theorem dX6_become_16 : decode cX6_become 16 = .ok (.getfield 15, 3) := by decide +kernel
theorem dX6_become_19 : decode cX6_become 19 = .ok (.invokestatic 25, 3) := by decide +kernel
theorem dX6_become_22 : decode cX6_become 22 = .ok (.aload_n 1, 1) := by decide +kernel
theorem dX6_become_23 : decode cX6_become 23 = .ok (.getfield 18, 3) := by decide +kernel
theorem dX6_become_26 : decode cX6_become 26 = .ok (.aload_n 0, 1) := by decide +kernel
theorem dX6_become_27 : decode cX6_become 27 = .ok (.getfield 18, 3) := by decide +kernel
theorem dX6_become_30 : decode cX6_become 30 = .ok (.invokestatic 25, 3) := by decide +kernel
theorem dX6_become_33 : decode cX6_become 33 = .ok (.aload_n 0, 1) := by decide +kernel
theorem dX6_become_34 : decode cX6_become 34 = .ok (.aload_n 1, 1) := by decide +kernel
theorem dX6_become_35 : decode cX6_become 35 = .ok (.getfield 21, 3) := by decide +kernel
theorem dX6_become_38 : decode cX6_become 38 = .ok (.putfield 21, 3) := by decide +kernel
theorem dX6_become_41 : decode cX6_become 41 = .ok (.return_, 1) := by decide +kernel
theorem dX6_add_0 : decode cX6_add 0 = .ok (.aload_n 0, 1) := by decide +kernel
theorem dX6_add_1 : decode cX6_add 1 = .ok (.getfield 21, 3) := by decide +kernel
theorem dX6_add_4 : decode cX6_add 4 = .ok (.istore 4, 2) := by decide +kernel
theorem dX6_add_6 : decode cX6_add 6 = .ok (.iload 4, 2) := by decide +kernel
theorem dX6_add_8 : decode cX6_add 8 = .ok (.ifCond .lt 10, 3) := by decide +kernel
theorem dX6_add_11 : decode cX6_add 11 = .ok (.iload 4, 2) := by decide +kernel
theorem dX6_add_13 : decode cX6_add 13 = .ok (.bipush 120, 2) := by decide +kernel
theorem dX6_add_15 : decode cX6_add 15 = .ok (.if_icmp .lt 5, 3) := by decide +kernel
theorem dX6_add_18 : decode cX6_add 18 = .ok (.iconst (-1), 1) := by decide +kernel
theorem dX6_add_19 : decode cX6_add 19 = .ok (.ireturn, 1) := by decide +kernel
theorem dX6_add_20 : decode cX6_add 20 = .ok (.aload_n 0, 1) := by decide +kernel
theorem dX6_add_21 : decode cX6_add 21 = .ok (.getfield 9, 3) := by decide +kernel
theorem dX6_add_24 : decode cX6_add 24 = .ok (.iload 4, 2) := by decide +kernel
theorem dX6_add_26 : decode cX6_add 26 = .ok (.iload_n 1, 1) := by decide +kernel
theorem dX6_add_27 : decode cX6_add 27 = .ok (.iastore, 1) := by decide +kernel
theorem dX6_add_28 : decode cX6_add 28 = .ok (.aload_n 0, 1) := by decide +kernel
theorem dX6_add_29 : decode cX6_add 29 = .ok (.getfield 15, 3) := by decide +kernel
theorem dX6_add_32 : decode cX6_add 32 = .ok (.iload 4, 2) := by decide +kernel
theorem dX6_add_34 : decode cX6_add 34 = .ok (.iload_n 2, 1) := by decide +kernel
theorem dX6_add_35 : decode cX6_add 35 = .ok (.iastore, 1) := by decide +kernel
theorem dX6_add_36 : decode cX6_add 36 = .ok (.aload_n 0, 1) := by decide +kernel
theorem dX6_add_37 : decode cX6_add 37 = .ok (.getfield 18, 3) := by decide +kernel
theorem dX6_add_40 : decode cX6_add 40 = .ok (.iload 4, 2) := by decide +kernel
theorem dX6_add_42 : decode cX6_add 42 = .ok (.iload_n 3, 1) := by decide +kernel
theorem dX6_add_43 : decode cX6_add 43 = .ok (.iastore, 1) := by decide +kernel
theorem dX6_add_44 : decode cX6_add 44 = .ok (.aload_n 0, 1) := by decide +kernel
theorem dX6_add_45 : decode cX6_add 45 = .ok (.dup, 1) := by decide +kernel
theorem dX6_add_46 : decode cX6_add 46 = .ok (.getfield 21, 3) := by decide +kernel
theorem dX6_add_49 : decode cX6_add 49 = .ok (.iconst 1, 1) := by decide +kernel
theorem dX6_add_50 : decode cX6_add 50 = .ok (.iadd, 1) := by decide +kernel
theorem dX6_add_51 : decode cX6_add 51 = .ok (.putfield 21, 3) := by decide +kernel
theorem dX6_add_54 : decode cX6_add 54 = .ok (.iload 4, 2) := by decide +kernel
theorem dX6_add_56 : decode cX6_add 56 = .ok (.ireturn, 1) := by decide +kernel
theorem dX6_keyOf_0 : decode cX6_keyOf 0 = .ok (.iload_n 1, 1) := by decide +kernel
theorem dX6_keyOf_1 : decode cX6_keyOf 1 = .ok (.ifCond .lt 18, 3) := by decide +kernel
theorem dX6_keyOf_4 : decode cX6_keyOf 4 = .ok (.iload_n 1, 1) := by decide +kernel
theorem dX6_keyOf_5 : decode cX6_keyOf 5 = .ok (.bipush 120, 2) := by decide +kernel
theorem dX6_keyOf_7 : decode cX6_keyOf 7 = .ok (.if_icmp .ge 12, 3) := by decide +kernel
theorem dX6_keyOf_10 : decode cX6_keyOf 10 = .ok (.aload_n 0, 1) := by decide +kernel
theorem dX6_keyOf_11 : decode cX6_keyOf 11 = .ok (.getfield 9, 3) := by decide +kernel
theorem dX6_keyOf_14 : decode cX6_keyOf 14 = .ok (.iload_n 1, 1) := by decide +kernel
theorem dX6_keyOf_15 : decode cX6_keyOf 15 = .ok (.iaload, 1) := by decide +kernel
theorem dX6_keyOf_16 : decode cX6_keyOf 16 = .ok (.goto 4, 3) := by decide +kernel
theorem dX6_keyOf_19 : decode cX6_keyOf 19 = .ok (.iconst 0, 1) := by decide +kernel
theorem dX6_keyOf_20 : decode cX6_keyOf 20 = .ok (.ireturn, 1) := by decide +kernel
theorem dX6_valueOf_0 : decode cX6_valueOf 0 = .ok (.iload_n 1, 1) := by decide +kernel
theorem dX6_valueOf_1 : decode cX6_valueOf 1 = .ok (.ifCond .lt 18, 3) := by decide +kernel
theorem dX6_valueOf_4 : decode cX6_valueOf 4 = .ok (.iload_n 1, 1) := by decide +kernel
theorem dX6_valueOf_5 : decode cX6_valueOf 5 = .ok (.bipush 120, 2) := by decide +kernel
theorem dX6_valueOf_7 : decode cX6_valueOf 7 = .ok (.if_icmp .ge 12, 3) := by decide +kernel
theorem dX6_valueOf_10 : decode cX6_valueOf 10 = .ok (.aload_n 0, 1) := by decide +kernel
theorem dX6_valueOf_11 : decode cX6_valueOf 11 = .ok (.getfield 15, 3) := by decide +kernel
theorem dX6_valueOf_14 : decode cX6_valueOf 14 = .ok (.iload_n 1, 1) := by decide +kernel
theorem dX6_valueOf_15 : decode cX6_valueOf 15 = .ok (.iaload, 1) := by decide +kernel
theorem dX6_valueOf_16 : decode cX6_valueOf 16 = .ok (.goto 4, 3) := by decide +kernel
theorem dX6_valueOf_19 : decode cX6_valueOf 19 = .ok (.iconst 0, 1) := by decide +kernel
theorem dX6_valueOf_20 : decode cX6_valueOf 20 = .ok (.ireturn, 1) := by decide +kernel
theorem dX6_stateOf_0 : decode cX6_stateOf 0 = .ok (.iload_n 1, 1) := by decide +kernel
theorem dX6_stateOf_1 : decode cX6_stateOf 1 = .ok (.ifCond .lt 18, 3) := by decide +kernel
theorem dX6_stateOf_4 : decode cX6_stateOf 4 = .ok (.iload_n 1, 1) := by decide +kernel
theorem dX6_stateOf_5 : decode cX6_stateOf 5 = .ok (.bipush 120, 2) := by decide +kernel
theorem dX6_stateOf_7 : decode cX6_stateOf 7 = .ok (.if_icmp .ge 12, 3) := by decide +kernel
theorem dX6_stateOf_10 : decode cX6_stateOf 10 = .ok (.aload_n 0, 1) := by decide +kernel
theorem dX6_stateOf_11 : decode cX6_stateOf 11 = .ok (.getfield 18, 3) := by decide +kernel
theorem dX6_stateOf_14 : decode cX6_stateOf 14 = .ok (.iload_n 1, 1) := by decide +kernel
theorem dX6_stateOf_15 : decode cX6_stateOf 15 = .ok (.iaload, 1) := by decide +kernel
theorem dX6_stateOf_16 : decode cX6_stateOf 16 = .ok (.goto 4, 3) := by decide +kernel
theorem dX6_stateOf_19 : decode cX6_stateOf 19 = .ok (.iconst 3, 1) := by decide +kernel
theorem dX6_stateOf_20 : decode cX6_stateOf 20 = .ok (.ireturn, 1) := by decide +kernel
theorem dX6_putState_0 : decode cX6_putState 0 = .ok (.iload_n 1, 1) := by decide +kernel
theorem dX6_putState_1 : decode cX6_putState 1 = .ok (.ifCond .lt 16, 3) := by decide +kernel
theorem dX6_putState_4 : decode cX6_putState 4 = .ok (.iload_n 1, 1) := by decide +kernel
theorem dX6_putState_5 : decode cX6_putState 5 = .ok (.bipush 120, 2) := by decide +kernel
theorem dX6_putState_7 : decode cX6_putState 7 = .ok (.if_icmp .ge 10, 3) := by decide +kernel
theorem dX6_putState_10 : decode cX6_putState 10 = .ok (.aload_n 0, 1) := by decide +kernel
theorem dX6_putState_11 : decode cX6_putState 11 = .ok (.getfield 18, 3) := by decide +kernel
theorem dX6_putState_14 : decode cX6_putState 14 = .ok (.iload_n 1, 1) := by decide +kernel
theorem dX6_putState_15 : decode cX6_putState 15 = .ok (.iload_n 2, 1) := by decide +kernel
theorem dX6_putState_16 : decode cX6_putState 16 = .ok (.iastore, 1) := by decide +kernel
theorem dX6_putState_17 : decode cX6_putState 17 = .ok (.return_, 1) := by decide +kernel
set_option maxRecDepth 20000 in
theorem ggX6_lives_X6_stateOf : GoodIn wsX6_lives wsX6_stateOf := goodIn_r _ [5, 6, 7, 8, 9, 10] (by decide +kernel) (by decide +kernel)
set_option maxRecDepth 20000 in
theorem gX6_lives_X6_stateOf : GoodIn wsX6_lives (wsV RX6 29 RX6 yX6_stateOf wsX6_stateOf) := goodIn_app (goodIn_of _ (by decide +kernel)) ggX6_lives_X6_stateOf
theorem dX6_lives_0 : decode cX6_lives 0 = .ok (.aload_n 0, 1) := by decide +kernel
theorem dX6_lives_1 : decode cX6_lives 1 = .ok (.iload_n 1, 1) := by decide +kernel
theorem dX6_lives_2 : decode cX6_lives 2 = .ok (.invokevirtual 29, 3) := by decide +kernel
theorem dX6_lives_5 : decode cX6_lives 5 = .ok (.istore_n 2, 1) := by decide +kernel
theorem dX6_lives_6 : decode cX6_lives 6 = .ok (.iload_n 2, 1) := by decide +kernel
theorem dX6_lives_7 : decode cX6_lives 7 = .ok (.ifCond .eq 8, 3) := by decide +kernel
theorem dX6_lives_10 : decode cX6_lives 10 = .ok (.iload_n 2, 1) := by decide +kernel
theorem dX6_lives_11 : decode cX6_lives 11 = .ok (.iconst 1, 1) := by decide +kernel
theorem dX6_lives_12 : decode cX6_lives 12 = .ok (.if_icmp .ne 7, 3) := by decide +kernel
theorem dX6_lives_15 : decode cX6_lives 15 = .ok (.iconst 1, 1) := by decide +kernel
theorem dX6_lives_16 : decode cX6_lives 16 = .ok (.goto 4, 3) := by decide +kernel
theorem dX6_lives_19 : decode cX6_lives 19 = .ok (.iconst 0, 1) := by decide +kernel
theorem dX6_lives_20 : decode cX6_lives 20 = .ok (.ireturn, 1) := by decide +kernel
set_option maxRecDepth 20000 in
theorem ggX6_isIn_X6_keyOf : GoodIn wsX6_isIn wsX6_keyOf := goodIn_r _ [5, 6, 7, 8, 9, 10] (by decide +kernel) (by decide +kernel)
set_option maxRecDepth 20000 in
theorem gX6_isIn_X6_keyOf : GoodIn wsX6_isIn (wsV RX6 33 RX6 yX6_keyOf wsX6_keyOf) := goodIn_app (goodIn_of _ (by decide +kernel)) ggX6_isIn_X6_keyOf
theorem dX6_isIn_0 : decode cX6_isIn 0 = .ok (.aload_n 0, 1) := by decide +kernel
theorem dX6_isIn_1 : decode cX6_isIn 1 = .ok (.iload_n 1, 1) := by decide +kernel
theorem dX6_isIn_2 : decode cX6_isIn 2 = .ok (.invokevirtual 33, 3) := by decide +kernel
theorem dX6_isIn_5 : decode cX6_isIn 5 = .ok (.istore 4, 2) := by decide +kernel
theorem dX6_isIn_7 : decode cX6_isIn 7 = .ok (.iload 4, 2) := by decide +kernel
theorem dX6_isIn_9 : decode cX6_isIn 9 = .ok (.iload_n 2, 1) := by decide +kernel
theorem dX6_isIn_10 : decode cX6_isIn 10 = .ok (.if_icmp .lt 13, 3) := by decide +kernel
theorem dX6_isIn_13 : decode cX6_isIn 13 = .ok (.iload 4, 2) := by decide +kernel
theorem dX6_isIn_15 : decode cX6_isIn 15 = .ok (.iload_n 3, 1) := by decide +kernel
theorem dX6_isIn_16 : decode cX6_isIn 16 = .ok (.if_icmp .ge 7, 3) := by decide +kernel
theorem dX6_isIn_19 : decode cX6_isIn 19 = .ok (.iconst 1, 1) := by decide +kernel
theorem dX6_isIn_20 : decode cX6_isIn 20 = .ok (.goto 4, 3) := by decide +kernel
theorem dX6_isIn_23 : decode cX6_isIn 23 = .ok (.iconst 0, 1) := by decide +kernel
theorem dX6_isIn_24 : decode cX6_isIn 24 = .ok (.ireturn, 1) := by decide +kernel
set_option maxRecDepth 20000 in
theorem ggX6_isAhead_X6_keyOf : GoodIn wsX6_isAhead wsX6_keyOf := goodIn_r _ [5, 6, 7, 8, 9, 10] (by decide +kernel) (by decide +kernel)
set_option maxRecDepth 20000 in
theorem gX6_isAhead_X6_keyOf : GoodIn wsX6_isAhead (wsV RX6 33 RX6 yX6_keyOf wsX6_keyOf) := goodIn_app (goodIn_of _ (by decide +kernel)) ggX6_isAhead_X6_keyOf
theorem dX6_isAhead_0 : decode cX6_isAhead 0 = .ok (.aload_n 0, 1) := by decide +kernel
theorem dX6_isAhead_1 : decode cX6_isAhead 1 = .ok (.iload_n 1, 1) := by decide +kernel
theorem dX6_isAhead_2 : decode cX6_isAhead 2 = .ok (.invokevirtual 33, 3) := by decide +kernel
theorem dX6_isAhead_5 : decode cX6_isAhead 5 = .ok (.istore_n 3, 1) := by decide +kernel
theorem dX6_isAhead_6 : decode cX6_isAhead 6 = .ok (.aload_n 0, 1) := by decide +kernel
theorem dX6_isAhead_7 : decode cX6_isAhead 7 = .ok (.iload_n 2, 1) := by decide +kernel
theorem dX6_isAhead_8 : decode cX6_isAhead 8 = .ok (.invokevirtual 33, 3) := by decide +kernel
theorem dX6_isAhead_11 : decode cX6_isAhead 11 = .ok (.istore 4, 2) := by decide +kernel
theorem dX6_isAhead_13 : decode cX6_isAhead 13 = .ok (.iload_n 3, 1) := by decide +kernel
theorem dX6_isAhead_14 : decode cX6_isAhead 14 = .ok (.iload 4, 2) := by decide +kernel
theorem dX6_isAhead_16 : decode cX6_isAhead 16 = .ok (.if_icmp .lt 14, 3) := by decide +kernel
theorem dX6_isAhead_19 : decode cX6_isAhead 19 = .ok (.iload_n 3, 1) := by decide +kernel
theorem dX6_isAhead_20 : decode cX6_isAhead 20 = .ok (.iload 4, 2) := by decide +kernel
theorem dX6_isAhead_22 : decode cX6_isAhead 22 = .ok (.if_icmp .ne 12, 3) := by decide +kernel
theorem dX6_isAhead_25 : decode cX6_isAhead 25 = .ok (.iload_n 1, 1) := by decide +kernel
theorem dX6_isAhead_26 : decode cX6_isAhead 26 = .ok (.iload_n 2, 1) := by decide +kernel
theorem dX6_isAhead_27 : decode cX6_isAhead 27 = .ok (.if_icmp .ge 7, 3) := by decide +kernel
theorem dX6_isAhead_30 : decode cX6_isAhead 30 = .ok (.iconst 1, 1) := by decide +kernel
theorem dX6_isAhead_31 : decode cX6_isAhead 31 = .ok (.goto 4, 3) := by decide +kernel
theorem dX6_isAhead_34 : decode cX6_isAhead 34 = .ok (.iconst 0, 1) := by decide +kernel
theorem dX6_isAhead_35 : decode cX6_isAhead 35 = .ok (.ireturn, 1) := by decide +kernel
set_option maxRecDepth 20000 in
theorem ggX6_livingCount_X6_lives : GoodIn wsX6_livingCount wsX6_lives := goodIn_r _ [6, 7, 8, 9, 5, 10, 11, 12, 13, 14, 15] (by decide +kernel) (by decide +kernel)
set_option maxRecDepth 20000 in
theorem gX6_livingCount_X6_lives : GoodIn wsX6_livingCount (wsV RX6 36 RX6 yX6_lives wsX6_lives) := goodIn_app (goodIn_of _ (by decide +kernel)) ggX6_livingCount_X6_lives
theorem dX6_livingCount_0 : decode cX6_livingCount 0 = .ok (.iconst 0, 1) := by decide +kernel
theorem dX6_livingCount_1 : decode cX6_livingCount 1 = .ok (.istore_n 1, 1) := by decide +kernel
theorem dX6_livingCount_2 : decode cX6_livingCount 2 = .ok (.iconst 0, 1) := by decide +kernel
theorem dX6_livingCount_3 : decode cX6_livingCount 3 = .ok (.istore_n 2, 1) := by decide +kernel
theorem dX6_livingCount_4 : decode cX6_livingCount 4 = .ok (.iload_n 2, 1) := by decide +kernel
theorem dX6_livingCount_5 : decode cX6_livingCount 5 = .ok (.aload_n 0, 1) := by decide +kernel
theorem dX6_livingCount_6 : decode cX6_livingCount 6 = .ok (.getfield 21, 3) := by decide +kernel
theorem dX6_livingCount_9 : decode cX6_livingCount 9 = .ok (.if_icmp .ge 25, 3) := by decide +kernel
theorem dX6_livingCount_12 : decode cX6_livingCount 12 = .ok (.iload_n 1, 1) := by decide +kernel
theorem dX6_livingCount_13 : decode cX6_livingCount 13 = .ok (.aload_n 0, 1) := by decide +kernel
theorem dX6_livingCount_14 : decode cX6_livingCount 14 = .ok (.iload_n 2, 1) := by decide +kernel
theorem dX6_livingCount_15 : decode cX6_livingCount 15 = .ok (.invokevirtual 36, 3) := by decide +kernel
theorem dX6_livingCount_18 : decode cX6_livingCount 18 = .ok (.ifCond .eq 7, 3) := by decide +kernel
theorem dX6_livingCount_21 : decode cX6_livingCount 21 = .ok (.iconst 1, 1) := by decide +kernel
theorem dX6_livingCount_22 : decode cX6_livingCount 22 = .ok (.goto 4, 3) := by decide +kernel
theorem dX6_livingCount_25 : decode cX6_livingCount 25 = .ok (.iconst 0, 1) := by decide +kernel
theorem dX6_livingCount_26 : decode cX6_livingCount 26 = .ok (.iadd, 1) := by decide +kernel
theorem dX6_livingCount_27 : decode cX6_livingCount 27 = .ok (.istore_n 1, 1) := by decide +kernel
theorem dX6_livingCount_28 : decode cX6_livingCount 28 = .ok (.iinc 2 1, 3) := by decide +kernel
theorem dX6_livingCount_31 : decode cX6_livingCount 31 = .ok (.goto (-27), 3) := by decide +kernel
theorem dX6_livingCount_34 : decode cX6_livingCount 34 = .ok (.iload_n 1, 1) := by decide +kernel
theorem dX6_livingCount_35 : decode cX6_livingCount 35 = .ok (.ireturn, 1) := by decide +kernel
set_option maxRecDepth 20000 in
theorem ggX6_livingAt_X6_lives : GoodIn wsX6_livingAt wsX6_lives := goodIn_r _ [6, 7, 8, 9, 5, 10, 11, 25, 26, 27, 28] (by decide +kernel) (by decide +kernel)
set_option maxRecDepth 20000 in
theorem gX6_livingAt_X6_lives : GoodIn wsX6_livingAt (wsV RX6 36 RX6 yX6_lives wsX6_lives) := goodIn_app (goodIn_of _ (by decide +kernel)) ggX6_livingAt_X6_lives
set_option maxRecDepth 20000 in
theorem ggX6_livingAt_X6_livingAhead : GoodIn wsX6_livingAt wsX6_livingAhead := goodIn_r _ [15, 1, 2, 3, 4, 5, 6, 7, 8, 9, 10, 11, 16, 17, 18, 19, 20, 21, 22, 23, 24, 25, 26, 27, 28] (by decide +kernel) (by decide +kernel)
set_option maxRecDepth 20000 in
theorem gX6_livingAt_X6_livingAhead : GoodIn wsX6_livingAt (wsV RX6 40 RX6 yX6_livingAhead wsX6_livingAhead) := goodIn_app (goodIn_of _ (by decide +kernel)) ggX6_livingAt_X6_livingAhead
theorem dX6_livingAt_0 : decode cX6_livingAt 0 = .ok (.iconst 0, 1) := by decide +kernel
theorem dX6_livingAt_1 : decode cX6_livingAt 1 = .ok (.istore_n 2, 1) := by decide +kernel
theorem dX6_livingAt_2 : decode cX6_livingAt 2 = .ok (.iload_n 2, 1) := by decide +kernel
theorem dX6_livingAt_3 : decode cX6_livingAt 3 = .ok (.aload_n 0, 1) := by decide +kernel
theorem dX6_livingAt_4 : decode cX6_livingAt 4 = .ok (.getfield 21, 3) := by decide +kernel
theorem dX6_livingAt_7 : decode cX6_livingAt 7 = .ok (.if_icmp .ge 28, 3) := by decide +kernel
theorem dX6_livingAt_10 : decode cX6_livingAt 10 = .ok (.aload_n 0, 1) := by decide +kernel
theorem dX6_livingAt_11 : decode cX6_livingAt 11 = .ok (.iload_n 2, 1) := by decide +kernel
theorem dX6_livingAt_12 : decode cX6_livingAt 12 = .ok (.invokevirtual 36, 3) := by decide +kernel
theorem dX6_livingAt_15 : decode cX6_livingAt 15 = .ok (.ifCond .eq 14, 3) := by decide +kernel
theorem dX6_livingAt_18 : decode cX6_livingAt 18 = .ok (.aload_n 0, 1) := by decide +kernel
theorem dX6_livingAt_19 : decode cX6_livingAt 19 = .ok (.iload_n 2, 1) := by decide +kernel
theorem dX6_livingAt_20 : decode cX6_livingAt 20 = .ok (.invokevirtual 40, 3) := by decide +kernel
theorem dX6_livingAt_23 : decode cX6_livingAt 23 = .ok (.iload_n 1, 1) := by decide +kernel
theorem dX6_livingAt_24 : decode cX6_livingAt 24 = .ok (.if_icmp .ne 5, 3) := by decide +kernel
theorem dX6_livingAt_27 : decode cX6_livingAt 27 = .ok (.iload_n 2, 1) := by decide +kernel
theorem dX6_livingAt_28 : decode cX6_livingAt 28 = .ok (.ireturn, 1) := by decide +kernel
theorem dX6_livingAt_29 : decode cX6_livingAt 29 = .ok (.iinc 2 1, 3) := by decide +kernel
theorem dX6_livingAt_32 : decode cX6_livingAt 32 = .ok (.goto (-30), 3) := by decide +kernel
theorem dX6_livingAt_35 : decode cX6_livingAt 35 = .ok (.iconst (-1), 1) := by decide +kernel
theorem dX6_livingAt_36 : decode cX6_livingAt 36 = .ok (.ireturn, 1) := by decide +kernel
set_option maxRecDepth 20000 in
theorem ggX6_livingAhead_X6_lives : GoodIn wsX6_livingAhead wsX6_lives := goodIn_r _ [6, 7, 8, 9, 5, 10, 11, 21, 22, 23, 24] (by decide +kernel) (by decide +kernel)
set_option maxRecDepth 20000 in
theorem gX6_livingAhead_X6_lives : GoodIn wsX6_livingAhead (wsV RX6 36 RX6 yX6_lives wsX6_lives) := goodIn_app (goodIn_of _ (by decide +kernel)) ggX6_livingAhead_X6_lives
set_option maxRecDepth 20000 in
theorem ggX6_livingAhead_X6_isAhead : GoodIn wsX6_livingAhead wsX6_isAhead := goodIn_r _ [15, 16, 17, 18, 5, 19, 20, 21, 22, 23, 24] (by decide +kernel) (by decide +kernel)
set_option maxRecDepth 20000 in
theorem gX6_livingAhead_X6_isAhead : GoodIn wsX6_livingAhead (wsV RX6 43 RX6 yX6_isAhead wsX6_isAhead) := goodIn_app (goodIn_of _ (by decide +kernel)) ggX6_livingAhead_X6_isAhead
theorem dX6_livingAhead_0 : decode cX6_livingAhead 0 = .ok (.iconst 0, 1) := by decide +kernel
theorem dX6_livingAhead_1 : decode cX6_livingAhead 1 = .ok (.istore_n 2, 1) := by decide +kernel
theorem dX6_livingAhead_2 : decode cX6_livingAhead 2 = .ok (.iconst 0, 1) := by decide +kernel
theorem dX6_livingAhead_3 : decode cX6_livingAhead 3 = .ok (.istore_n 3, 1) := by decide +kernel
theorem dX6_livingAhead_4 : decode cX6_livingAhead 4 = .ok (.iload_n 3, 1) := by decide +kernel
theorem dX6_livingAhead_5 : decode cX6_livingAhead 5 = .ok (.aload_n 0, 1) := by decide +kernel
theorem dX6_livingAhead_6 : decode cX6_livingAhead 6 = .ok (.getfield 21, 3) := by decide +kernel
theorem dX6_livingAhead_9 : decode cX6_livingAhead 9 = .ok (.if_icmp .ge 34, 3) := by decide +kernel
theorem dX6_livingAhead_12 : decode cX6_livingAhead 12 = .ok (.iload_n 2, 1) := by decide +kernel
theorem dX6_livingAhead_13 : decode cX6_livingAhead 13 = .ok (.aload_n 0, 1) := by decide +kernel
theorem dX6_livingAhead_14 : decode cX6_livingAhead 14 = .ok (.iload_n 3, 1) := by decide +kernel
theorem dX6_livingAhead_15 : decode cX6_livingAhead 15 = .ok (.invokevirtual 36, 3) := by decide +kernel
theorem dX6_livingAhead_18 : decode cX6_livingAhead 18 = .ok (.ifCond .eq 16, 3) := by decide +kernel
theorem dX6_livingAhead_21 : decode cX6_livingAhead 21 = .ok (.aload_n 0, 1) := by decide +kernel
theorem dX6_livingAhead_22 : decode cX6_livingAhead 22 = .ok (.iload_n 3, 1) := by decide +kernel
theorem dX6_livingAhead_23 : decode cX6_livingAhead 23 = .ok (.iload_n 1, 1) := by decide +kernel
theorem dX6_livingAhead_24 : decode cX6_livingAhead 24 = .ok (.invokevirtual 43, 3) := by decide +kernel
theorem dX6_livingAhead_27 : decode cX6_livingAhead 27 = .ok (.ifCond .eq 7, 3) := by decide +kernel
theorem dX6_livingAhead_30 : decode cX6_livingAhead 30 = .ok (.iconst 1, 1) := by decide +kernel
theorem dX6_livingAhead_31 : decode cX6_livingAhead 31 = .ok (.goto 4, 3) := by decide +kernel
theorem dX6_livingAhead_34 : decode cX6_livingAhead 34 = .ok (.iconst 0, 1) := by decide +kernel
theorem dX6_livingAhead_35 : decode cX6_livingAhead 35 = .ok (.iadd, 1) := by decide +kernel
theorem dX6_livingAhead_36 : decode cX6_livingAhead 36 = .ok (.istore_n 2, 1) := by decide +kernel
theorem dX6_livingAhead_37 : decode cX6_livingAhead 37 = .ok (.iinc 3 1, 3) := by decide +kernel
theorem dX6_livingAhead_40 : decode cX6_livingAhead 40 = .ok (.goto (-36), 3) := by decide +kernel
theorem dX6_livingAhead_43 : decode cX6_livingAhead 43 = .ok (.iload_n 2, 1) := by decide +kernel
theorem dX6_livingAhead_44 : decode cX6_livingAhead 44 = .ok (.ireturn, 1) := by decide +kernel
set_option maxRecDepth 20000 in
theorem ggX6_tallyLiving_X0_clear : GoodIn wsX6_tallyLiving wsX0_clear := goodIn_r _ [6, 7, 47, 48] (by decide +kernel) (by decide +kernel)
set_option maxRecDepth 20000 in
theorem gX6_tallyLiving_X0_clear : GoodIn wsX6_tallyLiving (wsV RX6 47 RX0 yX0_clear wsX0_clear) := goodIn_app (goodIn_of _ (by decide +kernel)) ggX6_tallyLiving_X0_clear
set_option maxRecDepth 20000 in
theorem ggX6_tallyLiving_X6_lives : GoodIn wsX6_tallyLiving wsX6_lives := goodIn_r _ [12, 13, 14, 15, 11, 16, 17, 43, 44, 45, 46] (by decide +kernel) (by decide +kernel)
set_option maxRecDepth 20000 in
theorem gX6_tallyLiving_X6_lives : GoodIn wsX6_tallyLiving (wsV RX6 36 RX6 yX6_lives wsX6_lives) := goodIn_app (goodIn_of _ (by decide +kernel)) ggX6_tallyLiving_X6_lives
set_option maxRecDepth 20000 in
theorem ggX6_tallyLiving_X6_isIn : GoodIn wsX6_tallyLiving wsX6_isIn := goodIn_r _ [21, 22, 23, 24, 11, 25, 26, 43, 44, 45, 46] (by decide +kernel) (by decide +kernel)
set_option maxRecDepth 20000 in
theorem gX6_tallyLiving_X6_isIn : GoodIn wsX6_tallyLiving (wsV RX6 52 RX6 yX6_isIn wsX6_isIn) := goodIn_app (goodIn_of _ (by decide +kernel)) ggX6_tallyLiving_X6_isIn
set_option maxRecDepth 20000 in
theorem ggX6_tallyLiving_X6_keyOf : GoodIn wsX6_tallyLiving wsX6_keyOf := goodIn_r _ [25, 26, 43, 44, 45, 46] (by decide +kernel) (by decide +kernel)
set_option maxRecDepth 20000 in
theorem gX6_tallyLiving_X6_keyOf : GoodIn wsX6_tallyLiving (wsV RX6 33 RX6 yX6_keyOf wsX6_keyOf) := goodIn_app (goodIn_of _ (by decide +kernel)) ggX6_tallyLiving_X6_keyOf
set_option maxRecDepth 20000 in
theorem ggX6_tallyLiving_X6_valueOf : GoodIn wsX6_tallyLiving wsX6_valueOf := goodIn_r _ [30, 31, 43, 44, 45, 46] (by decide +kernel) (by decide +kernel)
set_option maxRecDepth 20000 in
theorem gX6_tallyLiving_X6_valueOf : GoodIn wsX6_tallyLiving (wsV RX6 56 RX6 yX6_valueOf wsX6_valueOf) := goodIn_app (goodIn_of _ (by decide +kernel)) ggX6_tallyLiving_X6_valueOf
set_option maxRecDepth 20000 in
theorem ggX6_tallyLiving_X0_take : GoodIn wsX6_tallyLiving wsX0_take := goodIn_r _ [35, 7, 36, 37, 38, 39, 40, 41, 42, 47, 48] (by decide +kernel) (by decide +kernel)
set_option maxRecDepth 20000 in
theorem gX6_tallyLiving_X0_take : GoodIn wsX6_tallyLiving (wsV RX6 59 RX0 yX0_take wsX0_take) := goodIn_app (goodIn_of _ (by decide +kernel)) ggX6_tallyLiving_X0_take
theorem dX6_tallyLiving_0 : decode cX6_tallyLiving 0 = .ok (.aload_n 3, 1) := by decide +kernel
theorem dX6_tallyLiving_1 : decode cX6_tallyLiving 1 = .ok (.invokevirtual 47, 3) := by decide +kernel
theorem dX6_tallyLiving_4 : decode cX6_tallyLiving 4 = .ok (.iconst 0, 1) := by decide +kernel
theorem dX6_tallyLiving_5 : decode cX6_tallyLiving 5 = .ok (.istore 4, 2) := by decide +kernel
theorem dX6_tallyLiving_7 : decode cX6_tallyLiving 7 = .ok (.iload 4, 2) := by decide +kernel
theorem dX6_tallyLiving_9 : decode cX6_tallyLiving 9 = .ok (.aload_n 0, 1) := by decide +kernel
theorem dX6_tallyLiving_10 : decode cX6_tallyLiving 10 = .ok (.getfield 21, 3) := by decide +kernel
theorem dX6_tallyLiving_13 : decode cX6_tallyLiving 13 = .ok (.if_icmp .ge 45, 3) := by decide +kernel
theorem dX6_tallyLiving_16 : decode cX6_tallyLiving 16 = .ok (.aload_n 0, 1) := by decide +kernel
theorem dX6_tallyLiving_17 : decode cX6_tallyLiving 17 = .ok (.iload 4, 2) := by decide +kernel
theorem dX6_tallyLiving_19 : decode cX6_tallyLiving 19 = .ok (.invokevirtual 36, 3) := by decide +kernel
theorem dX6_tallyLiving_22 : decode cX6_tallyLiving 22 = .ok (.ifCond .eq 30, 3) := by decide +kernel
theorem dX6_tallyLiving_25 : decode cX6_tallyLiving 25 = .ok (.aload_n 0, 1) := by decide +kernel
theorem dX6_tallyLiving_26 : decode cX6_tallyLiving 26 = .ok (.iload 4, 2) := by decide +kernel
theorem dX6_tallyLiving_28 : decode cX6_tallyLiving 28 = .ok (.iload_n 1, 1) := by decide +kernel
theorem dX6_tallyLiving_29 : decode cX6_tallyLiving 29 = .ok (.iload_n 2, 1) := by decide +kernel
theorem dX6_tallyLiving_30 : decode cX6_tallyLiving 30 = .ok (.invokevirtual 52, 3) := by decide +kernel
theorem dX6_tallyLiving_33 : decode cX6_tallyLiving 33 = .ok (.ifCond .eq 19, 3) := by decide +kernel
theorem dX6_tallyLiving_36 : decode cX6_tallyLiving 36 = .ok (.aload_n 3, 1) := by decide +kernel
theorem dX6_tallyLiving_37 : decode cX6_tallyLiving 37 = .ok (.aload_n 0, 1) := by decide +kernel
theorem dX6_tallyLiving_38 : decode cX6_tallyLiving 38 = .ok (.iload 4, 2) := by decide +kernel
theorem dX6_tallyLiving_40 : decode cX6_tallyLiving 40 = .ok (.invokevirtual 33, 3) := by decide +kernel
theorem dX6_tallyLiving_43 : decode cX6_tallyLiving 43 = .ok (.aload_n 0, 1) := by decide +kernel
theorem dX6_tallyLiving_44 : decode cX6_tallyLiving 44 = .ok (.iload 4, 2) := by decide +kernel
theorem dX6_tallyLiving_46 : decode cX6_tallyLiving 46 = .ok (.invokevirtual 56, 3) := by decide +kernel
theorem dX6_tallyLiving_49 : decode cX6_tallyLiving 49 = .ok (.invokevirtual 59, 3) := by decide +kernel
theorem dX6_tallyLiving_52 : decode cX6_tallyLiving 52 = .ok (.iinc 4 1, 3) := by decide +kernel
theorem dX6_tallyLiving_55 : decode cX6_tallyLiving 55 = .ok (.goto (-48), 3) := by decide +kernel
theorem dX6_tallyLiving_58 : decode cX6_tallyLiving 58 = .ok (.return_, 1) := by decide +kernel
set_option maxRecDepth 20000 in
theorem ggX7_init_X1_init : GoodIn wsX7_init wsX1_init := goodIn_r _ [27, 28, 2, 3, 29, 30, 31, 32, 33, 34, 35, 123, 124] (by decide +kernel) (by decide +kernel)
set_option maxRecDepth 20000 in
theorem gX7_init_X1_init : GoodIn wsX7_init (wsX1_init) := ggX7_init_X1_init
set_option maxRecDepth 20000 in
theorem ggX7_init_X5_init : GoodIn wsX7_init wsX5_init := goodIn_r _ [38, 39, 2, 3, 40, 41, 42, 43, 44, 134, 135, 136, 137, 138] (by decide +kernel) (by decide +kernel)
set_option maxRecDepth 20000 in
theorem gX7_init_X5_init : GoodIn wsX7_init (wsX5_init) := ggX7_init_X5_init
set_option maxRecDepth 20000 in
theorem ggX7_init_X0_init : GoodIn wsX7_init wsX0_init := goodIn_r _ [46, 47, 2, 3, 48, 49, 50, 139, 140] (by decide +kernel) (by decide +kernel)
set_option maxRecDepth 20000 in
theorem gX7_init_X0_init_n32 : GoodIn wsX7_init (wsX0_init) := ggX7_init_X0_init
set_option maxRecDepth 20000 in
theorem ggX7_init_X2_init : GoodIn wsX7_init wsX2_init := goodIn_r _ [53, 54, 2, 3, 55, 56, 57, 58, 59, 60, 61, 62, 63, 14, 15, 64, 65, 66, 67, 68, 48, 69, 70, 71, 72, 73, 74, 75, 76, 77, 78, 79, 80, 81, 82, 83, 84, 85, 86, 87, 88, 89, 90, 91, 45, 46, 47, 49, 50, 92, 93, 94, 95, 96, 97, 98, 99, 19, 100, 101, 102, 103, 104, 105, 106, 107, 108, 109, 110, 111, 112, 113, 114, 115, 116, 117, 118, 119, 120, 121, 122, 149, 150, 151, 152, 141, 142, 143, 144, 145, 146, 147, 148, 153, 154, 155, 156, 157, 158, 159, 160, 139, 140, 161, 162] (by decide +kernel) (by decide +kernel)
set_option maxRecDepth 20000 in
theorem gX7_init_X2_init : GoodIn wsX7_init (wsX2_init) := ggX7_init_X2_init
theorem dX7_init_0 : decode cX7_init 0 = .ok (.aload_n 0, 1) := by decide +kernel
theorem dX7_init_1 : decode cX7_init 1 = .ok (.invokespecial 3, 3) := by decide +kernel
theorem dX7_init_4 : decode cX7_init 4 = .ok (.aload_n 0, 1) := by decide +kernel
theorem dX7_init_5 : decode cX7_init 5 = .ok (.new 9, 3) := by decide +kernel
theorem dX7_init_8 : decode cX7_init 8 = .ok (.dup, 1) := by decide +kernel
theorem dX7_init_9 : decode cX7_init 9 = .ok (.sipush 900, 3) := by decide +kernel
theorem dX7_init_12 : decode cX7_init 12 = .ok (.invokespecial 11, 3) := by decide +kernel
theorem dX7_init_15 : decode cX7_init 15 = .ok (.putfield 14, 3) := by decide +kernel
theorem dX7_init_18 : decode cX7_init 18 = .ok (.aload_n 0, 1) := by decide +kernel
theorem dX7_init_19 : decode cX7_init 19 = .ok (.new 18, 3) := by decide +kernel
theorem dX7_init_22 : decode cX7_init 22 = .ok (.dup, 1) := by decide +kernel
theorem dX7_init_23 : decode cX7_init 23 = .ok (.aload_n 0, 1) := by decide +kernel
theorem dX7_init_24 : decode cX7_init 24 = .ok (.getfield 14, 3) := by decide +kernel
theorem dX7_init_27 : decode cX7_init 27 = .ok (.invokespecial 20, 3) := by decide +kernel
theorem dX7_init_30 : decode cX7_init 30 = .ok (.putfield 23, 3) := by decide +kernel
theorem dX7_init_33 : decode cX7_init 33 = .ok (.aload_n 0, 1) := by decide +kernel
theorem dX7_init_34 : decode cX7_init 34 = .ok (.new 9, 3) := by decide +kernel
theorem dX7_init_37 : decode cX7_init 37 = .ok (.dup, 1) := by decide +kernel
theorem dX7_init_38 : decode cX7_init 38 = .ok (.sipush 1302, 3) := by decide +kernel
theorem dX7_init_41 : decode cX7_init 41 = .ok (.invokespecial 11, 3) := by decide +kernel
theorem dX7_init_44 : decode cX7_init 44 = .ok (.putfield 27, 3) := by decide +kernel
theorem dX7_init_47 : decode cX7_init 47 = .ok (.aload_n 0, 1) := by decide +kernel
theorem dX7_init_48 : decode cX7_init 48 = .ok (.new 30, 3) := by decide +kernel
theorem dX7_init_51 : decode cX7_init 51 = .ok (.dup, 1) := by decide +kernel
theorem dX7_init_52 : decode cX7_init 52 = .ok (.invokespecial 32, 3) := by decide +kernel
theorem dX7_init_55 : decode cX7_init 55 = .ok (.putfield 33, 3) := by decide +kernel
theorem dX7_init_58 : decode cX7_init 58 = .ok (.aload_n 0, 1) := by decide +kernel
theorem dX7_init_59 : decode cX7_init 59 = .ok (.new 37, 3) := by decide +kernel
theorem dX7_init_62 : decode cX7_init 62 = .ok (.dup, 1) := by decide +kernel
theorem dX7_init_63 : decode cX7_init 63 = .ok (.invokespecial 39, 3) := by decide +kernel
theorem dX7_init_66 : decode cX7_init 66 = .ok (.putfield 40, 3) := by decide +kernel
theorem dX7_init_69 : decode cX7_init 69 = .ok (.aload_n 0, 1) := by decide +kernel
theorem dX7_init_70 : decode cX7_init 70 = .ok (.bipush 8, 2) := by decide +kernel
theorem dX7_init_72 : decode cX7_init 72 = .ok (.anewarray 37, 3) := by decide +kernel
theorem dX7_init_75 : decode cX7_init 75 = .ok (.putfield 44, 3) := by decide +kernel
theorem dX7_init_78 : decode cX7_init 78 = .ok (.aload_n 0, 1) := by decide +kernel
theorem dX7_init_79 : decode cX7_init 79 = .ok (.new 37, 3) := by decide +kernel
theorem dX7_init_82 : decode cX7_init 82 = .ok (.dup, 1) := by decide +kernel
theorem dX7_init_83 : decode cX7_init 83 = .ok (.invokespecial 39, 3) := by decide +kernel
theorem dX7_init_86 : decode cX7_init 86 = .ok (.putfield 48, 3) := by decide +kernel
theorem dX7_init_89 : decode cX7_init 89 = .ok (.aload_n 0, 1) := by decide +kernel
theorem dX7_init_90 : decode cX7_init 90 = .ok (.iconst 0, 1) := by decide +kernel
theorem dX7_init_91 : decode cX7_init 91 = .ok (.putfield 51, 3) := by decide +kernel
theorem dX7_init_94 : decode cX7_init 94 = .ok (.aload_n 0, 1) := by decide +kernel
theorem dX7_init_95 : decode cX7_init 95 = .ok (.iconst (-1), 1) := by decide +kernel
theorem dX7_init_96 : decode cX7_init 96 = .ok (.putfield 55, 3) := by decide +kernel
theorem dX7_init_99 : decode cX7_init 99 = .ok (.iconst 0, 1) := by decide +kernel
theorem dX7_init_100 : decode cX7_init 100 = .ok (.istore_n 1, 1) := by decide +kernel
theorem dX7_init_101 : decode cX7_init 101 = .ok (.iload_n 1, 1) := by decide +kernel
theorem dX7_init_102 : decode cX7_init 102 = .ok (.aload_n 0, 1) := by decide +kernel
theorem dX7_init_103 : decode cX7_init 103 = .ok (.getfield 44, 3) := by decide +kernel
theorem dX7_init_106 : decode cX7_init 106 = .ok (.arraylength, 1) := by decide +kernel
theorem dX7_init_107 : decode cX7_init 107 = .ok (.if_icmp .ge 22, 3) := by decide +kernel
theorem dX7_init_110 : decode cX7_init 110 = .ok (.aload_n 0, 1) := by decide +kernel
theorem dX7_init_111 : decode cX7_init 111 = .ok (.getfield 44, 3) := by decide +kernel
theorem dX7_init_114 : decode cX7_init 114 = .ok (.iload_n 1, 1) := by decide +kernel
theorem dX7_init_115 : decode cX7_init 115 = .ok (.new 37, 3) := by decide +kernel
theorem dX7_init_118 : decode cX7_init 118 = .ok (.dup, 1) := by decide +kernel
theorem dX7_init_119 : decode cX7_init 119 = .ok (.invokespecial 39, 3) := by decide +kernel
theorem dX7_init_122 : decode cX7_init 122 = .ok (.aastore, 1) := by decide +kernel
theorem dX7_init_123 : decode cX7_init 123 = .ok (.iinc 1 1, 3) := by decide +kernel
theorem dX7_init_126 : decode cX7_init 126 = .ok (.goto (-25), 3) := by decide +kernel
theorem dX7_init_129 : decode cX7_init 129 = .ok (.return_, 1) := by decide +kernel
set_option maxRecDepth 20000 in
theorem ggX7_append_X1_putFour : GoodIn wsX7_append wsX1_putFour := goodIn_r _ [9, 10, 11, 12, 8, 13, 14, 15, 25, 26] (by decide +kernel) (by decide +kernel)
set_option maxRecDepth 20000 in
theorem gX7_append_X1_putFour : GoodIn wsX7_append (wsV RX7 64 RX1 yX1_putFour wsX1_putFour) := goodIn_app (goodIn_of _ (by decide +kernel)) ggX7_append_X1_putFour
theorem dX7_append_0 : decode cX7_append 0 = .ok (.aload_n 0, 1) := by decide +kernel
theorem dX7_append_1 : decode cX7_append 1 = .ok (.getfield 14, 3) := by decide +kernel
theorem dX7_append_4 : decode cX7_append 4 = .ok (.getfield 58, 3) := by decide +kernel
theorem dX7_append_7 : decode cX7_append 7 = .ok (.bipush 20, 2) := by decide +kernel
theorem dX7_append_9 : decode cX7_append 9 = .ok (.iadd, 1) := by decide +kernel
theorem dX7_append_10 : decode cX7_append 10 = .ok (.sipush 900, 3) := by decide +kernel
theorem dX7_append_13 : decode cX7_append 13 = .ok (.if_icmp .le 11, 3) := by decide +kernel
theorem dX7_append_16 : decode cX7_append 16 = .ok (.new 61, 3) := by decide +kernel
theorem dX7_append_19 : decode cX7_append 19 = .ok (.dup, 1) := by decide +kernel
theorem dX7_append_20 : decode cX7_append 20 = .ok (.invokespecial 63, 3) := by decide +kernel
theorem dX7_append_23 : decode cX7_append 23 = .ok (.athrow, 1) := by decide +kernel
theorem dX7_append_24 : decode cX7_append 24 = .ok (.aload_n 0, 1) := by decide +kernel
theorem dX7_append_25 : decode cX7_append 25 = .ok (.getfield 14, 3) := by decide +kernel
theorem dX7_append_28 : decode cX7_append 28 = .ok (.iload_n 1, 1) := by decide +kernel
theorem dX7_append_29 : decode cX7_append 29 = .ok (.invokevirtual 64, 3) := by decide +kernel
theorem dX7_append_32 : decode cX7_append 32 = .ok (.aload_n 0, 1) := by decide +kernel
theorem dX7_append_33 : decode cX7_append 33 = .ok (.getfield 14, 3) := by decide +kernel
theorem dX7_append_36 : decode cX7_append 36 = .ok (.iload_n 2, 1) := by decide +kernel
theorem dX7_append_37 : decode cX7_append 37 = .ok (.invokevirtual 64, 3) := by decide +kernel
theorem dX7_append_40 : decode cX7_append 40 = .ok (.aload_n 0, 1) := by decide +kernel
theorem dX7_append_41 : decode cX7_append 41 = .ok (.getfield 14, 3) := by decide +kernel
theorem dX7_append_44 : decode cX7_append 44 = .ok (.iload_n 3, 1) := by decide +kernel
theorem dX7_append_45 : decode cX7_append 45 = .ok (.invokevirtual 64, 3) := by decide +kernel
theorem dX7_append_48 : decode cX7_append 48 = .ok (.aload_n 0, 1) := by decide +kernel
theorem dX7_append_49 : decode cX7_append 49 = .ok (.getfield 14, 3) := by decide +kernel
theorem dX7_append_52 : decode cX7_append 52 = .ok (.iload 4, 2) := by decide +kernel
theorem dX7_append_54 : decode cX7_append 54 = .ok (.invokevirtual 64, 3) := by decide +kernel
theorem dX7_append_57 : decode cX7_append 57 = .ok (.aload_n 0, 1) := by decide +kernel
theorem dX7_append_58 : decode cX7_append 58 = .ok (.getfield 14, 3) := by decide +kernel
theorem dX7_append_61 : decode cX7_append 61 = .ok (.iload 5, 2) := by decide +kernel
theorem dX7_append_63 : decode cX7_append 63 = .ok (.invokevirtual 64, 3) := by decide +kernel
theorem dX7_append_66 : decode cX7_append 66 = .ok (.aload_n 0, 1) := by decide +kernel
theorem dX7_append_67 : decode cX7_append 67 = .ok (.getfield 14, 3) := by decide +kernel
theorem dX7_append_70 : decode cX7_append 70 = .ok (.getfield 58, 3) := by decide +kernel
theorem dX7_append_73 : decode cX7_append 73 = .ok (.ireturn, 1) := by decide +kernel
set_option maxRecDepth 20000 in
theorem ggX7_load_X7_checkRange : GoodIn wsX7_load wsX7_checkRange := goodIn_ca (goodIn_r _ [11, 12, 13] (by decide +kernel) (by decide +kernel)) (goodIn_sub (fun _ h => List.mem_cons_of_mem _ (List.mem_append_right _ h)) (by decide +kernel))
set_option maxRecDepth 20000 in
theorem gX7_load_X7_checkRange : GoodIn wsX7_load (va_wsS RX7 67 yX7_checkRange wsX7_checkRange) := goodIn_app (goodIn_of _ (by decide +kernel)) ggX7_load_X7_checkRange
set_option maxRecDepth 20000 in
theorem ggX7_load_X5_readColumn : GoodIn wsX7_load wsX5_readColumn := goodIn_r _ [18, 19, 20, 21, 22, 23, 24, 25, 26, 27, 28, 29, 30, 31, 32, 33, 34, 35, 36, 37, 38, 39, 40, 41, 42, 43, 44, 45, 46, 47, 48, 49, 50, 51, 52, 53, 54, 55, 56, 10, 57, 58, 59, 60, 61, 62, 63, 64, 65, 66, 67, 68, 69, 17, 70, 71, 72, 73, 74, 75, 76, 77, 78, 79, 80, 81, 82, 83, 84, 85, 86, 87, 88, 89, 90, 91, 92, 93, 94, 95, 96, 97, 98, 99, 100, 101, 102, 103, 104, 105, 106, 107, 108, 109, 110, 111, 112, 113, 114, 115, 116, 117, 118, 119, 120, 121, 122, 123, 124, 125, 126, 127, 128, 129, 130, 131, 132, 133, 134, 135, 136, 137, 138, 139, 140, 141, 142, 143, 144, 145, 146, 147, 148, 149, 150, 151, 152, 153, 154, 155, 156, 157, 158, 159, 160, 161, 162, 163, 164, 165, 166, 167, 168, 169, 170, 171, 172, 173, 174, 175, 176, 177, 178, 179, 180, 181, 182, 183, 184, 185, 186, 187, 188, 189, 190, 191, 192, 193, 194, 195, 196, 197, 198, 199, 200, 201, 202, 203, 204, 205, 206, 207, 208, 209, 210, 211, 212, 213, 214, 215, 216, 217, 218, 219, 220, 221, 222, 223, 224, 225, 226, 227, 228, 229, 230, 231, 232, 233, 234, 235, 286, 287, 288, 289, 290, 291, 292, 293, 294, 295, 296, 297, 298, 299, 300, 301, 302, 303, 304, 305, 306, 307, 308, 309, 310, 311, 312, 313, 314, 284, 285] (by decide +kernel) (by decide +kernel)
set_option maxRecDepth 20000 in
theorem gX7_load_X5_readColumn : GoodIn wsX7_load (wsV RX7 71 RX5 yX5_readColumn wsX5_readColumn) := goodIn_app (goodIn_of _ (by decide +kernel)) ggX7_load_X5_readColumn
set_option maxRecDepth 20000 in
theorem ggX7_load_X7_remember : GoodIn wsX7_load wsX7_remember := goodIn_r _ [239, 240, 241, 7, 242, 243, 244, 10, 245, 246, 247, 248, 28, 249, 30, 32, 33, 35, 66, 250, 37, 38, 251, 252, 253, 168, 254, 171, 172, 173, 170, 255, 256, 257, 155, 156, 157, 258, 181, 182, 183, 259, 260, 261, 42, 262, 179, 46, 47, 48, 49, 44, 45, 263, 264, 265, 53, 266, 55, 267, 268, 269, 270, 271, 272, 273, 274, 275, 276, 277, 278, 279, 280, 281, 282, 283, 291, 292, 293, 294, 295, 296, 297, 298, 299, 300, 301, 302, 307, 308, 309, 310, 311, 312, 313, 314, 303, 304, 305, 306] (by decide +kernel) (by decide +kernel)
set_option maxRecDepth 20000 in
theorem gX7_load_X7_remember : GoodIn wsX7_load (wsV RX7 76 RX7 yX7_remember wsX7_remember) := goodIn_app (goodIn_of _ (by decide +kernel)) ggX7_load_X7_remember
set_option maxRecDepth 20000 in
theorem ggX7_load_X2_become : GoodIn wsX7_load wsX2_become := goodIn_r _ [249, 30, 32, 33, 35, 66, 250, 37, 38, 251, 252, 253, 168, 254, 171, 172, 173, 170, 255, 10, 256, 257, 155, 156, 157, 258, 181, 182, 183, 259, 260, 261, 42, 262, 179, 46, 47, 48, 49, 44, 45, 263, 264, 265, 53, 266, 55, 267, 268, 269, 270, 271, 272, 273, 274, 291, 292, 293, 294, 295, 296, 297, 298, 299, 300, 301, 302, 307, 308, 309, 310, 311, 312, 313, 314, 303, 304, 305, 306] (by decide +kernel) (by decide +kernel)
set_option maxRecDepth 20000 in
theorem gX7_load_X2_become : GoodIn wsX7_load (wsV RX7 79 RX2 yX2_become wsX2_become) := goodIn_app (goodIn_of _ (by decide +kernel)) ggX7_load_X2_become
theorem dX7_load_0 : decode cX7_load 0 = .ok (.iload_n 1, 1) := by decide +kernel
theorem dX7_load_1 : decode cX7_load 1 = .ok (.iconst 0, 1) := by decide +kernel
theorem dX7_load_2 : decode cX7_load 2 = .ok (.aload_n 0, 1) := by decide +kernel
theorem dX7_load_3 : decode cX7_load 3 = .ok (.getfield 14, 3) := by decide +kernel
theorem dX7_load_6 : decode cX7_load 6 = .ok (.getfield 58, 3) := by decide +kernel
theorem dX7_load_9 : decode cX7_load 9 = .ok (.invokestatic 67, 3) := by decide +kernel
theorem dX7_load_12 : decode cX7_load 12 = .ok (.aload_n 0, 1) := by decide +kernel
theorem dX7_load_13 : decode cX7_load 13 = .ok (.getfield 23, 3) := by decide +kernel
theorem dX7_load_16 : decode cX7_load 16 = .ok (.iload_n 1, 1) := by decide +kernel
theorem dX7_load_17 : decode cX7_load 17 = .ok (.aload_n 0, 1) := by decide +kernel
theorem dX7_load_18 : decode cX7_load 18 = .ok (.getfield 40, 3) := by decide +kernel
theorem dX7_load_21 : decode cX7_load 21 = .ok (.invokevirtual 71, 3) := by decide +kernel
theorem dX7_load_24 : decode cX7_load 24 = .ok (.istore_n 2, 1) := by decide +kernel
theorem dX7_load_25 : decode cX7_load 25 = .ok (.aload_n 0, 1) := by decide +kernel
theorem dX7_load_26 : decode cX7_load 26 = .ok (.getfield 14, 3) := by decide +kernel
theorem dX7_load_29 : decode cX7_load 29 = .ok (.iconst 0, 1) := by decide +kernel
theorem dX7_load_30 : decode cX7_load 30 = .ok (.putfield 58, 3) := by decide +kernel
theorem dX7_load_33 : decode cX7_load 33 = .ok (.aload_n 0, 1) := by decide +kernel
theorem dX7_load_34 : decode cX7_load 34 = .ok (.aload_n 0, 1) := by decide +kernel
theorem dX7_load_35 : decode cX7_load 35 = .ok (.getfield 23, 3) := by decide +kernel
theorem dX7_load_38 : decode cX7_load 38 = .ok (.getfield 75, 3) := by decide +kernel
theorem dX7_load_41 : decode cX7_load 41 = .ok (.putfield 55, 3) := by decide +kernel
theorem dX7_load_44 : decode cX7_load 44 = .ok (.iload_n 2, 1) := by decide +kernel
theorem dX7_load_45 : decode cX7_load 45 = .ok (.ifCond .lt 18, 3) := by decide +kernel
theorem dX7_load_48 : decode cX7_load 48 = .ok (.aload_n 0, 1) := by decide +kernel
theorem dX7_load_49 : decode cX7_load 49 = .ok (.invokevirtual 76, 3) := by decide +kernel
theorem dX7_load_52 : decode cX7_load 52 = .ok (.aload_n 0, 1) := by decide +kernel
theorem dX7_load_53 : decode cX7_load 53 = .ok (.getfield 48, 3) := by decide +kernel
theorem dX7_load_56 : decode cX7_load 56 = .ok (.aload_n 0, 1) := by decide +kernel
theorem dX7_load_57 : decode cX7_load 57 = .ok (.getfield 40, 3) := by decide +kernel
theorem dX7_load_60 : decode cX7_load 60 = .ok (.invokevirtual 79, 3) := by decide +kernel
theorem dX7_load_63 : decode cX7_load 63 = .ok (.iload_n 2, 1) := by decide +kernel
theorem dX7_load_64 : decode cX7_load 64 = .ok (.ireturn, 1) := by decide +kernel
theorem dX7_errorPosition_0 : decode cX7_errorPosition 0 = .ok (.aload_n 0, 1) := by decide +kernel
theorem dX7_errorPosition_1 : decode cX7_errorPosition 1 = .ok (.getfield 55, 3) := by decide +kernel
theorem dX7_errorPosition_4 : decode cX7_errorPosition 4 = .ok (.ireturn, 1) := by decide +kernel
set_option maxRecDepth 20000 in
theorem ggX7_count_X6_livingCount : GoodIn wsX7_count wsX6_livingCount := goodIn_r _ [17, 18, 19, 20, 21, 16, 22, 23, 24, 25, 26, 27, 69, 70, 71, 72] (by decide +kernel) (by decide +kernel)
set_option maxRecDepth 20000 in
theorem gX7_count_X6_livingCount : GoodIn wsX7_count (wsV RX7 92 RX6 yX6_livingCount wsX6_livingCount) := goodIn_app (goodIn_of _ (by decide +kernel)) ggX7_count_X6_livingCount
set_option maxRecDepth 20000 in
theorem ggX7_count_X3_sortedPieces : GoodIn wsX7_count wsX3_sortedPieces := goodIn_r _ [32, 33, 34, 35, 36, 31, 37, 38, 39, 40, 41, 42, 73, 74, 75, 76, 77, 78, 79, 80] (by decide +kernel) (by decide +kernel)
set_option maxRecDepth 20000 in
theorem gX7_count_X3_sortedPieces : GoodIn wsX7_count (wsV RX7 111 RX3 yX3_sortedPieces wsX3_sortedPieces) := goodIn_app (goodIn_of _ (by decide +kernel)) ggX7_count_X3_sortedPieces
set_option maxRecDepth 20000 in
theorem ggX7_count_X2_setting : GoodIn wsX7_count wsX2_setting := goodIn_r _ [47, 48, 49, 50, 51, 61, 62, 63, 64, 65, 66, 67, 68] (by decide +kernel) (by decide +kernel)
set_option maxRecDepth 20000 in
theorem gX7_count_X2_setting : GoodIn wsX7_count (wsV RX7 114 RX2 yX2_setting wsX2_setting) := goodIn_app (goodIn_of _ (by decide +kernel)) ggX7_count_X2_setting
theorem dX7_count_0 : decode cX7_count 0 = .ok (.iload_n 1, 1) := by decide +kernel
theorem dX7_count_1 : decode cX7_count 1 = .ok (.tableswitch 181 0 11 #[63, 74, 85, 96, 104, 115, 126, 135, 144, 153, 162, 170], 63) := by decide +kernel
theorem dX7_count_64 : decode cX7_count 64 = .ok (.aload_n 0, 1) := by decide +kernel
theorem dX7_count_65 : decode cX7_count 65 = .ok (.getfield 48, 3) := by decide +kernel
theorem dX7_count_68 : decode cX7_count 68 = .ok (.getfield 83, 3) := by decide +kernel
theorem dX7_count_71 : decode cX7_count 71 = .ok (.getfield 87, 3) := by decide +kernel
theorem dX7_count_74 : decode cX7_count 74 = .ok (.ireturn, 1) := by decide +kernel
theorem dX7_count_75 : decode cX7_count 75 = .ok (.aload_n 0, 1) := by decide +kernel
theorem dX7_count_76 : decode cX7_count 76 = .ok (.getfield 48, 3) := by decide +kernel
theorem dX7_count_79 : decode cX7_count 79 = .ok (.getfield 83, 3) := by decide +kernel
theorem dX7_count_82 : decode cX7_count 82 = .ok (.invokevirtual 92, 3) := by decide +kernel
theorem dX7_count_85 : decode cX7_count 85 = .ok (.ireturn, 1) := by decide +kernel
theorem dX7_count_86 : decode cX7_count 86 = .ok (.aload_n 0, 1) := by decide +kernel
theorem dX7_count_87 : decode cX7_count 87 = .ok (.getfield 48, 3) := by decide +kernel
theorem dX7_count_90 : decode cX7_count 90 = .ok (.getfield 96, 3) := by decide +kernel
theorem dX7_count_93 : decode cX7_count 93 = .ok (.getfield 100, 3) := by decide +kernel
theorem dX7_count_96 : decode cX7_count 96 = .ok (.ireturn, 1) := by decide +kernel
theorem dX7_count_97 : decode cX7_count 97 = .ok (.aload_n 0, 1) := by decide +kernel
theorem dX7_count_98 : decode cX7_count 98 = .ok (.getfield 48, 3) := by decide +kernel
theorem dX7_count_101 : decode cX7_count 101 = .ok (.getfield 105, 3) := by decide +kernel
theorem dX7_count_104 : decode cX7_count 104 = .ok (.ireturn, 1) := by decide +kernel
theorem dX7_count_105 : decode cX7_count 105 = .ok (.aload_n 0, 1) := by decide +kernel
theorem dX7_count_106 : decode cX7_count 106 = .ok (.getfield 48, 3) := by decide +kernel
theorem dX7_count_109 : decode cX7_count 109 = .ok (.getfield 96, 3) := by decide +kernel
theorem dX7_count_112 : decode cX7_count 112 = .ok (.getfield 108, 3) := by decide +kernel
theorem dX7_count_115 : decode cX7_count 115 = .ok (.ireturn, 1) := by decide +kernel
theorem dX7_count_116 : decode cX7_count 116 = .ok (.aload_n 0, 1) := by decide +kernel
theorem dX7_count_117 : decode cX7_count 117 = .ok (.getfield 48, 3) := by decide +kernel
theorem dX7_count_120 : decode cX7_count 120 = .ok (.getfield 96, 3) := by decide +kernel
theorem dX7_count_123 : decode cX7_count 123 = .ok (.invokevirtual 111, 3) := by decide +kernel
theorem dX7_count_126 : decode cX7_count 126 = .ok (.ireturn, 1) := by decide +kernel
theorem dX7_count_127 : decode cX7_count 127 = .ok (.aload_n 0, 1) := by decide +kernel
theorem dX7_count_128 : decode cX7_count 128 = .ok (.getfield 48, 3) := by decide +kernel
theorem dX7_count_131 : decode cX7_count 131 = .ok (.iconst 0, 1) := by decide +kernel
theorem dX7_count_132 : decode cX7_count 132 = .ok (.invokevirtual 114, 3) := by decide +kernel
theorem dX7_count_135 : decode cX7_count 135 = .ok (.ireturn, 1) := by decide +kernel
theorem dX7_count_136 : decode cX7_count 136 = .ok (.aload_n 0, 1) := by decide +kernel
theorem dX7_count_137 : decode cX7_count 137 = .ok (.getfield 48, 3) := by decide +kernel
theorem dX7_count_140 : decode cX7_count 140 = .ok (.iconst 1, 1) := by decide +kernel
theorem dX7_count_141 : decode cX7_count 141 = .ok (.invokevirtual 114, 3) := by decide +kernel
theorem dX7_count_144 : decode cX7_count 144 = .ok (.ireturn, 1) := by decide +kernel
theorem dX7_count_145 : decode cX7_count 145 = .ok (.aload_n 0, 1) := by decide +kernel
theorem dX7_count_146 : decode cX7_count 146 = .ok (.getfield 48, 3) := by decide +kernel
theorem dX7_count_149 : decode cX7_count 149 = .ok (.iconst 2, 1) := by decide +kernel
theorem dX7_count_150 : decode cX7_count 150 = .ok (.invokevirtual 114, 3) := by decide +kernel
theorem dX7_count_153 : decode cX7_count 153 = .ok (.ireturn, 1) := by decide +kernel
theorem dX7_count_154 : decode cX7_count 154 = .ok (.aload_n 0, 1) := by decide +kernel
theorem dX7_count_155 : decode cX7_count 155 = .ok (.getfield 48, 3) := by decide +kernel
theorem dX7_count_158 : decode cX7_count 158 = .ok (.iconst 3, 1) := by decide +kernel
theorem dX7_count_159 : decode cX7_count 159 = .ok (.invokevirtual 114, 3) := by decide +kernel
theorem dX7_count_162 : decode cX7_count 162 = .ok (.ireturn, 1) := by decide +kernel
theorem dX7_count_163 : decode cX7_count 163 = .ok (.aload_n 0, 1) := by decide +kernel
theorem dX7_count_164 : decode cX7_count 164 = .ok (.getfield 48, 3) := by decide +kernel
theorem dX7_count_167 : decode cX7_count 167 = .ok (.getfield 118, 3) := by decide +kernel
theorem dX7_count_170 : decode cX7_count 170 = .ok (.ireturn, 1) := by decide +kernel
theorem dX7_count_171 : decode cX7_count 171 = .ok (.aload_n 0, 1) := by decide +kernel
theorem dX7_count_172 : decode cX7_count 172 = .ok (.getfield 48, 3) := by decide +kernel
theorem dX7_count_175 : decode cX7_count 175 = .ok (.getfield 121, 3) := by decide +kernel
theorem dX7_count_178 : decode cX7_count 178 = .ok (.getfield 125, 3) := by decide +kernel
theorem dX7_count_181 : decode cX7_count 181 = .ok (.ireturn, 1) := by decide +kernel
theorem dX7_count_182 : decode cX7_count 182 = .ok (.new 128, 3) := by decide +kernel
theorem dX7_count_185 : decode cX7_count 185 = .ok (.dup, 1) := by decide +kernel
theorem dX7_count_186 : decode cX7_count 186 = .ok (.invokespecial 130, 3) := by decide +kernel
theorem dX7_count_189 : decode cX7_count 189 = .ok (.athrow, 1) := by decide +kernel
set_option maxRecDepth 20000 in
theorem ggX7_row_X7_checkIndex : GoodIn wsX7_row wsX7_checkIndex := goodIn_ca (goodIn_r _ [10, 11, 12] (by decide +kernel) (by decide +kernel)) (goodIn_sub (fun _ h => List.mem_cons_of_mem _ (List.mem_append_right _ h)) (by decide +kernel))
set_option maxRecDepth 20000 in
theorem gX7_row_X7_checkIndex : GoodIn wsX7_row (va_wsS RX7 131 yX7_checkIndex wsX7_checkIndex) := goodIn_app (goodIn_of _ (by decide +kernel)) ggX7_row_X7_checkIndex
set_option maxRecDepth 20000 in
theorem ggX7_row_X6_keyOf : GoodIn wsX7_row wsX6_keyOf := goodIn_r _ [17, 18, 57, 58, 59, 60] (by decide +kernel) (by decide +kernel)
set_option maxRecDepth 20000 in
theorem gX7_row_X6_keyOf : GoodIn wsX7_row (wsV RX7 135 RX6 yX6_keyOf wsX6_keyOf) := goodIn_app (goodIn_of _ (by decide +kernel)) ggX7_row_X6_keyOf
set_option maxRecDepth 20000 in
theorem ggX7_row_X6_valueOf : GoodIn wsX7_row wsX6_valueOf := goodIn_r _ [22, 23, 57, 58, 59, 60] (by decide +kernel) (by decide +kernel)
set_option maxRecDepth 20000 in
theorem gX7_row_X6_valueOf : GoodIn wsX7_row (wsV RX7 138 RX6 yX6_valueOf wsX6_valueOf) := goodIn_app (goodIn_of _ (by decide +kernel)) ggX7_row_X6_valueOf
set_option maxRecDepth 20000 in
theorem ggX7_row_X6_stateOf : GoodIn wsX7_row wsX6_stateOf := goodIn_r _ [27, 28, 57, 58, 59, 60] (by decide +kernel) (by decide +kernel)
set_option maxRecDepth 20000 in
theorem gX7_row_X6_stateOf : GoodIn wsX7_row (wsV RX7 141 RX6 yX6_stateOf wsX6_stateOf) := goodIn_app (goodIn_of _ (by decide +kernel)) ggX7_row_X6_stateOf
set_option maxRecDepth 20000 in
theorem ggX7_row_X3_placeOf : GoodIn wsX7_row wsX3_placeOf := goodIn_r _ [33, 34, 35, 36, 37, 32, 38, 39, 61, 62, 63, 64, 65, 66, 67, 68] (by decide +kernel) (by decide +kernel)
set_option maxRecDepth 20000 in
theorem gX7_row_X3_placeOf : GoodIn wsX7_row (wsV RX7 144 RX3 yX3_placeOf wsX3_placeOf) := goodIn_app (goodIn_of _ (by decide +kernel)) ggX7_row_X3_placeOf
theorem dX7_row_0 : decode cX7_row 0 = .ok (.iload_n 1, 1) := by decide +kernel
theorem dX7_row_1 : decode cX7_row 1 = .ok (.aload_n 0, 1) := by decide +kernel
theorem dX7_row_2 : decode cX7_row 2 = .ok (.getfield 48, 3) := by decide +kernel
theorem dX7_row_5 : decode cX7_row 5 = .ok (.getfield 83, 3) := by decide +kernel
theorem dX7_row_8 : decode cX7_row 8 = .ok (.getfield 87, 3) := by decide +kernel
theorem dX7_row_11 : decode cX7_row 11 = .ok (.invokestatic 131, 3) := by decide +kernel
theorem dX7_row_14 : decode cX7_row 14 = .ok (.iload_n 2, 1) := by decide +kernel
theorem dX7_row_15 : decode cX7_row 15 = .ok (.tableswitch 77 0 3 #[29, 41, 53, 65], 29) := by decide +kernel
theorem dX7_row_44 : decode cX7_row 44 = .ok (.aload_n 0, 1) := by decide +kernel
theorem dX7_row_45 : decode cX7_row 45 = .ok (.getfield 48, 3) := by decide +kernel
theorem dX7_row_48 : decode cX7_row 48 = .ok (.getfield 83, 3) := by decide +kernel
theorem dX7_row_51 : decode cX7_row 51 = .ok (.iload_n 1, 1) := by decide +kernel
theorem dX7_row_52 : decode cX7_row 52 = .ok (.invokevirtual 135, 3) := by decide +kernel
theorem dX7_row_55 : decode cX7_row 55 = .ok (.ireturn, 1) := by decide +kernel
theorem dX7_row_56 : decode cX7_row 56 = .ok (.aload_n 0, 1) := by decide +kernel
theorem dX7_row_57 : decode cX7_row 57 = .ok (.getfield 48, 3) := by decide +kernel
theorem dX7_row_60 : decode cX7_row 60 = .ok (.getfield 83, 3) := by decide +kernel
theorem dX7_row_63 : decode cX7_row 63 = .ok (.iload_n 1, 1) := by decide +kernel
theorem dX7_row_64 : decode cX7_row 64 = .ok (.invokevirtual 138, 3) := by decide +kernel
theorem dX7_row_67 : decode cX7_row 67 = .ok (.ireturn, 1) := by decide +kernel
theorem dX7_row_68 : decode cX7_row 68 = .ok (.aload_n 0, 1) := by decide +kernel
theorem dX7_row_69 : decode cX7_row 69 = .ok (.getfield 48, 3) := by decide +kernel
theorem dX7_row_72 : decode cX7_row 72 = .ok (.getfield 83, 3) := by decide +kernel
theorem dX7_row_75 : decode cX7_row 75 = .ok (.iload_n 1, 1) := by decide +kernel
theorem dX7_row_76 : decode cX7_row 76 = .ok (.invokevirtual 141, 3) := by decide +kernel
theorem dX7_row_79 : decode cX7_row 79 = .ok (.ireturn, 1) := by decide +kernel
theorem dX7_row_80 : decode cX7_row 80 = .ok (.aload_n 0, 1) := by decide +kernel
theorem dX7_row_81 : decode cX7_row 81 = .ok (.getfield 48, 3) := by decide +kernel
theorem dX7_row_84 : decode cX7_row 84 = .ok (.getfield 96, 3) := by decide +kernel
theorem dX7_row_87 : decode cX7_row 87 = .ok (.iload_n 1, 1) := by decide +kernel
theorem dX7_row_88 : decode cX7_row 88 = .ok (.invokevirtual 144, 3) := by decide +kernel
theorem dX7_row_91 : decode cX7_row 91 = .ok (.ireturn, 1) := by decide +kernel
theorem dX7_row_92 : decode cX7_row 92 = .ok (.new 128, 3) := by decide +kernel
theorem dX7_row_95 : decode cX7_row 95 = .ok (.dup, 1) := by decide +kernel
theorem dX7_row_96 : decode cX7_row 96 = .ok (.invokespecial 130, 3) := by decide +kernel
theorem dX7_row_99 : decode cX7_row 99 = .ok (.athrow, 1) := by decide +kernel
set_option maxRecDepth 20000 in
theorem ggX7_entry_X7_checkIndex : GoodIn wsX7_entry wsX7_checkIndex := goodIn_ca (goodIn_r _ [7, 8, 9] (by decide +kernel) (by decide +kernel)) (goodIn_sub (fun _ h => List.mem_cons_of_mem _ (List.mem_append_right _ h)) (by decide +kernel))
set_option maxRecDepth 20000 in
theorem gX7_entry_X7_checkIndex : GoodIn wsX7_entry (va_wsS RX7 131 yX7_checkIndex wsX7_checkIndex) := goodIn_app (goodIn_of _ (by decide +kernel)) ggX7_entry_X7_checkIndex
set_option maxRecDepth 20000 in
theorem ggX7_entry_X3_rowAt : GoodIn wsX7_entry wsX3_rowAt := goodIn_r _ [14, 15, 16, 34, 35, 36, 37, 38, 39, 40, 41] (by decide +kernel) (by decide +kernel)
set_option maxRecDepth 20000 in
theorem gX7_entry_X3_rowAt : GoodIn wsX7_entry (wsV RX7 147 RX3 yX3_rowAt wsX3_rowAt) := goodIn_app (goodIn_of _ (by decide +kernel)) ggX7_entry_X3_rowAt
theorem dX7_entry_0 : decode cX7_entry 0 = .ok (.iload_n 1, 1) := by decide +kernel
theorem dX7_entry_1 : decode cX7_entry 1 = .ok (.aload_n 0, 1) := by decide +kernel
theorem dX7_entry_2 : decode cX7_entry 2 = .ok (.getfield 48, 3) := by decide +kernel
theorem dX7_entry_5 : decode cX7_entry 5 = .ok (.getfield 96, 3) := by decide +kernel
theorem dX7_entry_8 : decode cX7_entry 8 = .ok (.getfield 100, 3) := by decide +kernel
theorem dX7_entry_11 : decode cX7_entry 11 = .ok (.invokestatic 131, 3) := by decide +kernel
theorem dX7_entry_14 : decode cX7_entry 14 = .ok (.aload_n 0, 1) := by decide +kernel
theorem dX7_entry_15 : decode cX7_entry 15 = .ok (.getfield 48, 3) := by decide +kernel
theorem dX7_entry_18 : decode cX7_entry 18 = .ok (.getfield 96, 3) := by decide +kernel
theorem dX7_entry_21 : decode cX7_entry 21 = .ok (.iload_n 1, 1) := by decide +kernel
theorem dX7_entry_22 : decode cX7_entry 22 = .ok (.invokevirtual 147, 3) := by decide +kernel
theorem dX7_entry_25 : decode cX7_entry 25 = .ok (.ireturn, 1) := by decide +kernel
set_option maxRecDepth 20000 in
theorem ggX7_piece_X7_checkIndex : GoodIn wsX7_piece wsX7_checkIndex := goodIn_ca (goodIn_r _ [9, 10, 11] (by decide +kernel) (by decide +kernel)) (goodIn_sub (fun _ h => List.mem_cons_of_mem _ (List.mem_append_right _ h)) (by decide +kernel))
set_option maxRecDepth 20000 in
theorem gX7_piece_X7_checkIndex : GoodIn wsX7_piece (va_wsS RX7 131 yX7_checkIndex wsX7_checkIndex) := goodIn_app (goodIn_of _ (by decide +kernel)) ggX7_piece_X7_checkIndex
set_option maxRecDepth 20000 in
theorem ggX7_piece_X3_boundOf : GoodIn wsX7_piece wsX3_boundOf := goodIn_r _ [16, 17, 18, 19, 20, 15, 21, 22, 81, 82, 83, 84, 85, 86, 87, 88] (by decide +kernel) (by decide +kernel)
set_option maxRecDepth 20000 in
theorem gX7_piece_X3_boundOf : GoodIn wsX7_piece (wsV RX7 150 RX3 yX3_boundOf wsX3_boundOf) := goodIn_app (goodIn_of _ (by decide +kernel)) ggX7_piece_X3_boundOf
set_option maxRecDepth 20000 in
theorem ggX7_piece_X3_startOf : GoodIn wsX7_piece wsX3_startOf := goodIn_r _ [26, 27, 28, 18, 19, 20, 15, 21, 22, 81, 82, 83, 84, 85, 86, 87, 88] (by decide +kernel) (by decide +kernel)
set_option maxRecDepth 20000 in
theorem gX7_piece_X3_startOf : GoodIn wsX7_piece (wsV RX7 153 RX3 yX3_startOf wsX3_startOf) := goodIn_app (goodIn_of _ (by decide +kernel)) ggX7_piece_X3_startOf
set_option maxRecDepth 20000 in
theorem ggX7_piece_X3_sizeOf : GoodIn wsX7_piece wsX3_sizeOf := goodIn_r _ [32, 33, 24, 25, 15, 26, 27, 28, 18, 19, 20, 21, 22, 81, 82, 83, 84, 85, 86, 87, 88] (by decide +kernel) (by decide +kernel)
set_option maxRecDepth 20000 in
theorem gX7_piece_X3_sizeOf : GoodIn wsX7_piece (wsV RX7 156 RX3 yX3_sizeOf wsX3_sizeOf) := goodIn_app (goodIn_of _ (by decide +kernel)) ggX7_piece_X3_sizeOf
set_option maxRecDepth 20000 in
theorem ggX7_piece_X3_heatOf : GoodIn wsX7_piece wsX3_heatOf := goodIn_r _ [37, 38, 18, 19, 20, 15, 21, 22, 81, 82, 83, 84, 85, 86, 87, 88] (by decide +kernel) (by decide +kernel)
set_option maxRecDepth 20000 in
theorem gX7_piece_X3_heatOf : GoodIn wsX7_piece (wsV RX7 159 RX3 yX3_heatOf wsX3_heatOf) := goodIn_app (goodIn_of _ (by decide +kernel)) ggX7_piece_X3_heatOf
set_option maxRecDepth 20000 in
theorem ggX7_piece_X3_isSorted : GoodIn wsX7_piece wsX3_isSorted := goodIn_r _ [42, 43, 18, 19, 20, 15, 21, 22, 81, 82, 83, 84, 85, 86, 87, 88] (by decide +kernel) (by decide +kernel)
set_option maxRecDepth 20000 in
theorem gX7_piece_X3_isSorted : GoodIn wsX7_piece (wsV RX7 162 RX3 yX3_isSorted wsX3_isSorted) := goodIn_app (goodIn_of _ (by decide +kernel)) ggX7_piece_X3_isSorted
set_option maxRecDepth 20000 in
theorem ggX7_piece_X3_descentsOf : GoodIn wsX7_piece wsX3_descentsOf := goodIn_r _ [47, 33, 24, 25, 15, 26, 27, 28, 18, 19, 20, 21, 22, 48, 49, 50, 51, 52, 53, 54, 55, 56, 57, 58, 59, 60, 61, 62, 63, 81, 82, 83, 84, 85, 86, 87, 88, 89, 90, 91, 92] (by decide +kernel) (by decide +kernel)
set_option maxRecDepth 20000 in
theorem gX7_piece_X3_descentsOf : GoodIn wsX7_piece (wsV RX7 166 RX3 yX3_descentsOf wsX3_descentsOf) := goodIn_app (goodIn_of _ (by decide +kernel)) ggX7_piece_X3_descentsOf
theorem dX7_piece_0 : decode cX7_piece 0 = .ok (.iload_n 1, 1) := by decide +kernel
theorem dX7_piece_1 : decode cX7_piece 1 = .ok (.aload_n 0, 1) := by decide +kernel
theorem dX7_piece_2 : decode cX7_piece 2 = .ok (.getfield 48, 3) := by decide +kernel
theorem dX7_piece_5 : decode cX7_piece 5 = .ok (.getfield 96, 3) := by decide +kernel
theorem dX7_piece_8 : decode cX7_piece 8 = .ok (.getfield 108, 3) := by decide +kernel
theorem dX7_piece_11 : decode cX7_piece 11 = .ok (.invokestatic 131, 3) := by decide +kernel
theorem dX7_piece_14 : decode cX7_piece 14 = .ok (.iload_n 2, 1) := by decide +kernel
theorem dX7_piece_15 : decode cX7_piece 15 = .ok (.tableswitch 117 0 5 #[37, 49, 61, 73, 85, 105], 37) := by decide +kernel
theorem dX7_piece_52 : decode cX7_piece 52 = .ok (.aload_n 0, 1) := by decide +kernel
theorem dX7_piece_53 : decode cX7_piece 53 = .ok (.getfield 48, 3) := by decide +kernel
theorem dX7_piece_56 : decode cX7_piece 56 = .ok (.getfield 96, 3) := by decide +kernel
theorem dX7_piece_59 : decode cX7_piece 59 = .ok (.iload_n 1, 1) := by decide +kernel
theorem dX7_piece_60 : decode cX7_piece 60 = .ok (.invokevirtual 150, 3) := by decide +kernel
theorem dX7_piece_63 : decode cX7_piece 63 = .ok (.ireturn, 1) := by decide +kernel
theorem dX7_piece_64 : decode cX7_piece 64 = .ok (.aload_n 0, 1) := by decide +kernel
theorem dX7_piece_65 : decode cX7_piece 65 = .ok (.getfield 48, 3) := by decide +kernel
theorem dX7_piece_68 : decode cX7_piece 68 = .ok (.getfield 96, 3) := by decide +kernel
theorem dX7_piece_71 : decode cX7_piece 71 = .ok (.iload_n 1, 1) := by decide +kernel
theorem dX7_piece_72 : decode cX7_piece 72 = .ok (.invokevirtual 153, 3) := by decide +kernel
theorem dX7_piece_75 : decode cX7_piece 75 = .ok (.ireturn, 1) := by decide +kernel
theorem dX7_piece_76 : decode cX7_piece 76 = .ok (.aload_n 0, 1) := by decide +kernel
theorem dX7_piece_77 : decode cX7_piece 77 = .ok (.getfield 48, 3) := by decide +kernel
theorem dX7_piece_80 : decode cX7_piece 80 = .ok (.getfield 96, 3) := by decide +kernel
theorem dX7_piece_83 : decode cX7_piece 83 = .ok (.iload_n 1, 1) := by decide +kernel
theorem dX7_piece_84 : decode cX7_piece 84 = .ok (.invokevirtual 156, 3) := by decide +kernel
theorem dX7_piece_87 : decode cX7_piece 87 = .ok (.ireturn, 1) := by decide +kernel
theorem dX7_piece_88 : decode cX7_piece 88 = .ok (.aload_n 0, 1) := by decide +kernel
theorem dX7_piece_89 : decode cX7_piece 89 = .ok (.getfield 48, 3) := by decide +kernel
theorem dX7_piece_92 : decode cX7_piece 92 = .ok (.getfield 96, 3) := by decide +kernel
theorem dX7_piece_95 : decode cX7_piece 95 = .ok (.iload_n 1, 1) := by decide +kernel
theorem dX7_piece_96 : decode cX7_piece 96 = .ok (.invokevirtual 159, 3) := by decide +kernel
theorem dX7_piece_99 : decode cX7_piece 99 = .ok (.ireturn, 1) := by decide +kernel
theorem dX7_piece_100 : decode cX7_piece 100 = .ok (.aload_n 0, 1) := by decide +kernel
theorem dX7_piece_101 : decode cX7_piece 101 = .ok (.getfield 48, 3) := by decide +kernel
theorem dX7_piece_104 : decode cX7_piece 104 = .ok (.getfield 96, 3) := by decide +kernel
theorem dX7_piece_107 : decode cX7_piece 107 = .ok (.iload_n 1, 1) := by decide +kernel
theorem dX7_piece_108 : decode cX7_piece 108 = .ok (.invokevirtual 162, 3) := by decide +kernel
theorem dX7_piece_111 : decode cX7_piece 111 = .ok (.ifCond .eq 7, 3) := by decide +kernel
theorem dX7_piece_114 : decode cX7_piece 114 = .ok (.iconst 1, 1) := by decide +kernel
theorem dX7_piece_115 : decode cX7_piece 115 = .ok (.goto 4, 3) := by decide +kernel
theorem dX7_piece_118 : decode cX7_piece 118 = .ok (.iconst 0, 1) := by decide +kernel
theorem dX7_piece_119 : decode cX7_piece 119 = .ok (.ireturn, 1) := by decide +kernel
theorem dX7_piece_120 : decode cX7_piece 120 = .ok (.aload_n 0, 1) := by decide +kernel
theorem dX7_piece_121 : decode cX7_piece 121 = .ok (.getfield 48, 3) := by decide +kernel
theorem dX7_piece_124 : decode cX7_piece 124 = .ok (.getfield 96, 3) := by decide +kernel
theorem dX7_piece_127 : decode cX7_piece 127 = .ok (.iload_n 1, 1) := by decide +kernel
theorem dX7_piece_128 : decode cX7_piece 128 = .ok (.invokevirtual 166, 3) := by decide +kernel
theorem dX7_piece_131 : decode cX7_piece 131 = .ok (.ireturn, 1) := by decide +kernel
theorem dX7_piece_132 : decode cX7_piece 132 = .ok (.new 128, 3) := by decide +kernel
theorem dX7_piece_135 : decode cX7_piece 135 = .ok (.dup, 1) := by decide +kernel
theorem dX7_piece_136 : decode cX7_piece 136 = .ok (.invokespecial 130, 3) := by decide +kernel
theorem dX7_piece_139 : decode cX7_piece 139 = .ok (.athrow, 1) := by decide +kernel
set_option maxRecDepth 20000 in
theorem ggX7_pieceOf_X7_checkRange : GoodIn wsX7_pieceOf wsX7_checkRange := goodIn_ca (goodIn_r _ [6, 7, 8] (by decide +kernel) (by decide +kernel)) (goodIn_sub (fun _ h => List.mem_cons_of_mem _ (List.mem_append_right _ h)) (by decide +kernel))
set_option maxRecDepth 20000 in
theorem gX7_pieceOf_X7_checkRange : GoodIn wsX7_pieceOf (va_wsS RX7 67 yX7_checkRange wsX7_checkRange) := goodIn_app (goodIn_of _ (by decide +kernel)) ggX7_pieceOf_X7_checkRange
set_option maxRecDepth 20000 in
theorem ggX7_pieceOf_X3_pieceFor : GoodIn wsX7_pieceOf wsX3_pieceFor := goodIn_r _ [13, 14, 15, 33, 34, 35, 36, 37, 38, 39, 40] (by decide +kernel) (by decide +kernel)
set_option maxRecDepth 20000 in
theorem gX7_pieceOf_X3_pieceFor : GoodIn wsX7_pieceOf (wsV RX7 169 RX3 yX3_pieceFor wsX3_pieceFor) := goodIn_app (goodIn_of _ (by decide +kernel)) ggX7_pieceOf_X3_pieceFor
theorem dX7_pieceOf_0 : decode cX7_pieceOf 0 = .ok (.iload_n 1, 1) := by decide +kernel
theorem dX7_pieceOf_1 : decode cX7_pieceOf 1 = .ok (.iconst 0, 1) := by decide +kernel
theorem dX7_pieceOf_2 : decode cX7_pieceOf 2 = .ok (.sipush 9999, 3) := by decide +kernel
theorem dX7_pieceOf_5 : decode cX7_pieceOf 5 = .ok (.invokestatic 67, 3) := by decide +kernel
theorem dX7_pieceOf_8 : decode cX7_pieceOf 8 = .ok (.aload_n 0, 1) := by decide +kernel
theorem dX7_pieceOf_9 : decode cX7_pieceOf 9 = .ok (.getfield 48, 3) := by decide +kernel
theorem dX7_pieceOf_12 : decode cX7_pieceOf 12 = .ok (.getfield 96, 3) := by decide +kernel
theorem dX7_pieceOf_15 : decode cX7_pieceOf 15 = .ok (.iload_n 1, 1) := by decide +kernel
theorem dX7_pieceOf_16 : decode cX7_pieceOf 16 = .ok (.invokevirtual 169, 3) := by decide +kernel
theorem dX7_pieceOf_19 : decode cX7_pieceOf 19 = .ok (.ireturn, 1) := by decide +kernel
set_option maxRecDepth 20000 in
theorem ggX7_pending_X7_checkIndex : GoodIn wsX7_pending wsX7_checkIndex := goodIn_ca (goodIn_r _ [6, 7, 8] (by decide +kernel) (by decide +kernel)) (goodIn_sub (fun _ h => List.mem_cons_of_mem _ (List.mem_append_right _ h)) (by decide +kernel))
set_option maxRecDepth 20000 in
theorem gX7_pending_X7_checkIndex : GoodIn wsX7_pending (va_wsS RX7 131 yX7_checkIndex wsX7_checkIndex) := goodIn_app (goodIn_of _ (by decide +kernel)) ggX7_pending_X7_checkIndex
set_option maxRecDepth 20000 in
theorem ggX7_pending_X2_pendingAt : GoodIn wsX7_pending wsX2_pendingAt := goodIn_r _ [13, 14, 15, 25, 26, 27, 28, 29, 30, 31, 32] (by decide +kernel) (by decide +kernel)
set_option maxRecDepth 20000 in
theorem gX7_pending_X2_pendingAt : GoodIn wsX7_pending (wsV RX7 172 RX2 yX2_pendingAt wsX2_pendingAt) := goodIn_app (goodIn_of _ (by decide +kernel)) ggX7_pending_X2_pendingAt
theorem dX7_pending_0 : decode cX7_pending 0 = .ok (.iload_n 1, 1) := by decide +kernel
theorem dX7_pending_1 : decode cX7_pending 1 = .ok (.aload_n 0, 1) := by decide +kernel
theorem dX7_pending_2 : decode cX7_pending 2 = .ok (.getfield 48, 3) := by decide +kernel
theorem dX7_pending_5 : decode cX7_pending 5 = .ok (.getfield 105, 3) := by decide +kernel
theorem dX7_pending_8 : decode cX7_pending 8 = .ok (.invokestatic 131, 3) := by decide +kernel
theorem dX7_pending_11 : decode cX7_pending 11 = .ok (.aload_n 0, 1) := by decide +kernel
theorem dX7_pending_12 : decode cX7_pending 12 = .ok (.getfield 48, 3) := by decide +kernel
theorem dX7_pending_15 : decode cX7_pending 15 = .ok (.iload_n 1, 1) := by decide +kernel
theorem dX7_pending_16 : decode cX7_pending 16 = .ok (.invokevirtual 172, 3) := by decide +kernel
theorem dX7_pending_19 : decode cX7_pending 19 = .ok (.ireturn, 1) := by decide +kernel
set_option maxRecDepth 20000 in
theorem ggX7_query_X7_checkSpan : GoodIn wsX7_query wsX7_checkSpan := goodIn_ca (goodIn_r _ [6, 7, 8, 5, 9, 10, 11] (by decide +kernel) (by decide +kernel)) (goodIn_sub (fun _ h => List.mem_cons_of_mem _ (List.mem_append_right _ h)) (by decide +kernel))
set_option maxRecDepth 20000 in
theorem gX7_query_X7_checkSpan : GoodIn wsX7_query (va_wsS RX7 175 yX7_checkSpan wsX7_checkSpan) := goodIn_app (goodIn_of _ (by decide +kernel)) ggX7_query_X7_checkSpan
set_option maxRecDepth 20000 in
theorem ggX7_query_X7_remember : GoodIn wsX7_query wsX7_remember := goodIn_r _ [15, 16, 17, 1, 18, 19, 20, 5, 21, 22, 23, 24, 25, 26, 27, 28, 29, 30, 31, 32, 33, 34, 35, 36, 37, 38, 39, 40, 41, 42, 43, 44, 45, 46, 47, 48, 49, 50, 51, 52, 53, 54, 55, 56, 57, 58, 59, 60, 61, 62, 63, 64, 65, 66, 67, 68, 69, 70, 71, 72, 73, 74, 75, 76, 77, 78, 79, 275, 276, 277, 278, 279, 280, 281, 282, 283, 284, 285, 286, 287, 288, 289, 290, 291, 292, 293, 294, 295, 296, 297, 298, 299, 300, 301, 302, 303, 304, 305, 306, 307] (by decide +kernel) (by decide +kernel)
set_option maxRecDepth 20000 in
theorem gX7_query_X7_remember : GoodIn wsX7_query (wsV RX7 76 RX7 yX7_remember wsX7_remember) := goodIn_app (goodIn_of _ (by decide +kernel)) ggX7_query_X7_remember
set_option maxRecDepth 20000 in
theorem ggX7_query_X2_ask : GoodIn wsX7_query wsX2_ask := goodIn_r _ [83, 29, 84, 33, 28, 30, 34, 85, 86, 87, 69, 88, 71, 89, 90, 91, 25, 92, 93, 47, 48, 49, 32, 27, 94, 95, 96, 38, 97, 98, 99, 100, 101, 40, 102, 103, 104, 105, 106, 107, 108, 109, 110, 57, 111, 65, 60, 112, 113, 114, 115, 42, 116, 117, 118, 119, 120, 64, 59, 121, 51, 52, 53, 122, 123, 124, 125, 126, 127, 61, 128, 129, 130, 131, 132, 133, 134, 135, 63, 136, 137, 138, 139, 140, 141, 142, 143, 144, 145, 146, 147, 148, 149, 150, 151, 152, 153, 154, 155, 156, 157, 158, 159, 160, 161, 162, 163, 164, 165, 166, 167, 168, 169, 170, 171, 62, 172, 173, 174, 175, 176, 177, 178, 179, 180, 5, 181, 182, 183, 184, 185, 186, 187, 188, 189, 190, 191, 192, 193, 194, 195, 196, 197, 198, 199, 200, 201, 202, 203, 204, 205, 206, 207, 208, 209, 210, 211, 41, 212, 213, 214, 215, 216, 217, 218, 219, 220, 221, 222, 223, 224, 225, 226, 227, 228, 229, 230, 231, 232, 233, 234, 235, 236, 237, 238, 239, 31, 240, 241, 242, 243, 244, 245, 246, 247, 248, 249, 250, 251, 252, 253, 254, 255, 256, 257, 258, 259, 260, 261, 262, 263, 264, 265, 266, 267, 268, 269, 270, 76, 271, 78, 272, 79, 273, 284, 285, 286, 287, 288, 289, 290, 291, 304, 305, 292, 293, 294, 295, 296, 297, 298, 299, 300, 301, 302, 303, 306, 307] (by decide +kernel) (by decide +kernel)
set_option maxRecDepth 20000 in
theorem gX7_query_X2_ask : GoodIn wsX7_query (wsV RX7 178 RX2 yX2_ask wsX2_ask) := goodIn_app (goodIn_of _ (by decide +kernel)) ggX7_query_X2_ask
set_option maxRecDepth 20000 in
theorem ggX7_query_X0_numberAt : GoodIn wsX7_query wsX0_numberAt := goodIn_r _ [221, 71, 304, 305] (by decide +kernel) (by decide +kernel)
set_option maxRecDepth 20000 in
theorem gX7_query_X0_numberAt : GoodIn wsX7_query (wsV RX7 184 RX0 yX0_numberAt wsX0_numberAt) := goodIn_app (goodIn_of _ (by decide +kernel)) ggX7_query_X0_numberAt
theorem dX7_query_0 : decode cX7_query 0 = .ok (.iload_n 1, 1) := by decide +kernel
theorem dX7_query_1 : decode cX7_query 1 = .ok (.iload_n 2, 1) := by decide +kernel
theorem dX7_query_2 : decode cX7_query 2 = .ok (.invokestatic 175, 3) := by decide +kernel
theorem dX7_query_5 : decode cX7_query 5 = .ok (.aload_n 0, 1) := by decide +kernel
theorem dX7_query_6 : decode cX7_query 6 = .ok (.invokevirtual 76, 3) := by decide +kernel
theorem dX7_query_9 : decode cX7_query 9 = .ok (.aload_n 0, 1) := by decide +kernel
theorem dX7_query_10 : decode cX7_query 10 = .ok (.getfield 48, 3) := by decide +kernel
theorem dX7_query_13 : decode cX7_query 13 = .ok (.iload_n 1, 1) := by decide +kernel
theorem dX7_query_14 : decode cX7_query 14 = .ok (.iload_n 2, 1) := by decide +kernel
theorem dX7_query_15 : decode cX7_query 15 = .ok (.invokevirtual 178, 3) := by decide +kernel
theorem dX7_query_18 : decode cX7_query 18 = .ok (.aload_n 0, 1) := by decide +kernel
theorem dX7_query_19 : decode cX7_query 19 = .ok (.getfield 48, 3) := by decide +kernel
theorem dX7_query_22 : decode cX7_query 22 = .ok (.getfield 181, 3) := by decide +kernel
theorem dX7_query_25 : decode cX7_query 25 = .ok (.iconst 0, 1) := by decide +kernel
theorem dX7_query_26 : decode cX7_query 26 = .ok (.invokevirtual 184, 3) := by decide +kernel
theorem dX7_query_29 : decode cX7_query 29 = .ok (.ireturn, 1) := by decide +kernel
set_option maxRecDepth 20000 in
theorem ggX7_answer_X7_checkRange : GoodIn wsX7_answer wsX7_checkRange := goodIn_ca (goodIn_r _ [9, 10, 11] (by decide +kernel) (by decide +kernel)) (goodIn_sub (fun _ h => List.mem_cons_of_mem _ (List.mem_append_right _ h)) (by decide +kernel))
set_option maxRecDepth 20000 in
theorem gX7_answer_X7_checkRange : GoodIn wsX7_answer (va_wsS RX7 67 yX7_checkRange wsX7_checkRange) := goodIn_app (goodIn_of _ (by decide +kernel)) ggX7_answer_X7_checkRange
set_option maxRecDepth 20000 in
theorem ggX7_answer_X0_numberAt : GoodIn wsX7_answer wsX0_numberAt := goodIn_r _ [16, 17, 35, 36] (by decide +kernel) (by decide +kernel)
set_option maxRecDepth 20000 in
theorem gX7_answer_X0_numberAt : GoodIn wsX7_answer (wsV RX7 184 RX0 yX0_numberAt wsX0_numberAt) := goodIn_app (goodIn_of _ (by decide +kernel)) ggX7_answer_X0_numberAt
theorem dX7_answer_0 : decode cX7_answer 0 = .ok (.iload_n 1, 1) := by decide +kernel
theorem dX7_answer_1 : decode cX7_answer 1 = .ok (.iconst 0, 1) := by decide +kernel
theorem dX7_answer_2 : decode cX7_answer 2 = .ok (.bipush 8, 2) := by decide +kernel
theorem dX7_answer_4 : decode cX7_answer 4 = .ok (.invokestatic 67, 3) := by decide +kernel
theorem dX7_answer_7 : decode cX7_answer 7 = .ok (.aload_n 0, 1) := by decide +kernel
theorem dX7_answer_8 : decode cX7_answer 8 = .ok (.getfield 48, 3) := by decide +kernel
theorem dX7_answer_11 : decode cX7_answer 11 = .ok (.getfield 181, 3) := by decide +kernel
theorem dX7_answer_14 : decode cX7_answer 14 = .ok (.getfield 187, 3) := by decide +kernel
theorem dX7_answer_17 : decode cX7_answer 17 = .ok (.ifCond .ne 11, 3) := by decide +kernel
theorem dX7_answer_20 : decode cX7_answer 20 = .ok (.new 191, 3) := by decide +kernel
theorem dX7_answer_23 : decode cX7_answer 23 = .ok (.dup, 1) := by decide +kernel
theorem dX7_answer_24 : decode cX7_answer 24 = .ok (.invokespecial 193, 3) := by decide +kernel
theorem dX7_answer_27 : decode cX7_answer 27 = .ok (.athrow, 1) := by decide +kernel
theorem dX7_answer_28 : decode cX7_answer 28 = .ok (.aload_n 0, 1) := by decide +kernel
theorem dX7_answer_29 : decode cX7_answer 29 = .ok (.getfield 48, 3) := by decide +kernel
theorem dX7_answer_32 : decode cX7_answer 32 = .ok (.getfield 181, 3) := by decide +kernel
theorem dX7_answer_35 : decode cX7_answer 35 = .ok (.iload_n 1, 1) := by decide +kernel
theorem dX7_answer_36 : decode cX7_answer 36 = .ok (.invokevirtual 184, 3) := by decide +kernel
theorem dX7_answer_39 : decode cX7_answer 39 = .ok (.ireturn, 1) := by decide +kernel
set_option maxRecDepth 20000 in
theorem ggX7_asked_X7_checkIndex : GoodIn wsX7_asked wsX7_checkIndex := goodIn_ca (goodIn_r _ [7, 8, 9] (by decide +kernel) (by decide +kernel)) (goodIn_sub (fun _ h => List.mem_cons_of_mem _ (List.mem_append_left _ (List.mem_append_right _ h))) (by decide +kernel))
set_option maxRecDepth 20000 in
theorem gX7_asked_X7_checkIndex : GoodIn wsX7_asked (va_wsS RX7 131 yX7_checkIndex wsX7_checkIndex) := goodIn_app (goodIn_of _ (by decide +kernel)) ggX7_asked_X7_checkIndex
set_option maxRecDepth 20000 in
theorem ggX7_asked_X7_checkRange : GoodIn wsX7_asked wsX7_checkRange := goodIn_ca (goodIn_r _ [12, 13, 14] (by decide +kernel) (by decide +kernel)) (goodIn_sub (fun _ h => List.mem_cons_of_mem _ (List.mem_append_right _ h)) (by decide +kernel))
set_option maxRecDepth 20000 in
theorem gX7_asked_X7_checkRange : GoodIn wsX7_asked (va_wsS RX7 67 yX7_checkRange wsX7_checkRange) := goodIn_app (goodIn_of _ (by decide +kernel)) ggX7_asked_X7_checkRange
set_option maxRecDepth 20000 in
theorem ggX7_asked_X4_numberAt : GoodIn wsX7_asked wsX4_numberAt := goodIn_r _ [19, 20, 295, 296] (by decide +kernel) (by decide +kernel)
set_option maxRecDepth 20000 in
theorem gX7_asked_X4_numberAt : GoodIn wsX7_asked (wsV RX7 194 RX4 yX4_numberAt wsX4_numberAt) := goodIn_app (goodIn_of _ (by decide +kernel)) ggX7_asked_X4_numberAt
set_option maxRecDepth 20000 in
theorem ggX7_asked_X7_costNow : GoodIn wsX7_asked wsX7_costNow := goodIn_r _ [24, 25, 1, 26, 27, 28, 29, 30, 31, 32, 33, 34, 35, 36, 37, 38, 39, 40, 41, 42, 43, 44, 45, 46, 47, 48, 49, 6, 50, 51, 52, 53, 54, 55, 56, 57, 58, 59, 60, 61, 62, 63, 64, 65, 66, 67, 68, 69, 70, 71, 72, 73, 74, 75, 76, 77, 78, 79, 80, 18, 81, 20, 82, 83, 84, 85, 86, 87, 88, 89, 90, 91, 92, 93, 94, 95, 96, 97, 98, 99, 100, 101, 102, 103, 104, 105, 106, 107, 108, 109, 110, 111, 112, 113, 114, 115, 116, 117, 118, 119, 120, 121, 122, 123, 124, 125, 126, 127, 128, 129, 130, 131, 132, 133, 134, 135, 136, 137, 138, 139, 140, 141, 142, 143, 144, 145, 146, 147, 148, 149, 150, 151, 152, 153, 154, 155, 156, 157, 158, 159, 160, 161, 162, 163, 164, 165, 166, 167, 168, 169, 170, 171, 172, 173, 174, 175, 176, 177, 178, 179, 180, 181, 182, 183, 184, 185, 186, 187, 188, 189, 190, 191, 192, 193, 194, 195, 196, 197, 198, 199, 200, 201, 202, 203, 204, 205, 206, 207, 208, 209, 210, 211, 212, 213, 214, 215, 216, 217, 218, 219, 220, 221, 222, 223, 224, 225, 226, 227, 228, 229, 230, 231, 232, 233, 234, 235, 236, 237, 238, 239, 240, 241, 242, 243, 244, 245, 246, 247, 248, 249, 250, 251, 252, 253, 254, 255, 256, 257, 258, 259, 260, 261, 262, 263, 264, 265, 266, 267, 268, 269, 270, 271, 272, 273, 274, 275, 276, 277, 278, 279, 280, 281, 282, 283, 284, 285, 286, 287, 288, 289, 290, 291, 292, 293, 294, 297, 298, 299, 300, 301, 302, 303, 304, 305, 306, 307, 308, 309, 310, 295, 296] (by decide +kernel) (by decide +kernel)
set_option maxRecDepth 20000 in
theorem gX7_asked_X7_costNow : GoodIn wsX7_asked (wsV RX7 197 RX7 yX7_costNow wsX7_costNow) := goodIn_app (goodIn_of _ (by decide +kernel)) ggX7_asked_X7_costNow
theorem dX7_asked_0 : decode cX7_asked 0 = .ok (.iload_n 1, 1) := by decide +kernel
theorem dX7_asked_1 : decode cX7_asked 1 = .ok (.aload_n 0, 1) := by decide +kernel
theorem dX7_asked_2 : decode cX7_asked 2 = .ok (.getfield 48, 3) := by decide +kernel
theorem dX7_asked_5 : decode cX7_asked 5 = .ok (.getfield 121, 3) := by decide +kernel
theorem dX7_asked_8 : decode cX7_asked 8 = .ok (.getfield 125, 3) := by decide +kernel
theorem dX7_asked_11 : decode cX7_asked 11 = .ok (.invokestatic 131, 3) := by decide +kernel
theorem dX7_asked_14 : decode cX7_asked 14 = .ok (.iload_n 2, 1) := by decide +kernel
theorem dX7_asked_15 : decode cX7_asked 15 = .ok (.iconst 0, 1) := by decide +kernel
theorem dX7_asked_16 : decode cX7_asked 16 = .ok (.iconst 4, 1) := by decide +kernel
theorem dX7_asked_17 : decode cX7_asked 17 = .ok (.invokestatic 67, 3) := by decide +kernel
theorem dX7_asked_20 : decode cX7_asked 20 = .ok (.iload_n 2, 1) := by decide +kernel
theorem dX7_asked_21 : decode cX7_asked 21 = .ok (.iconst 4, 1) := by decide +kernel
theorem dX7_asked_22 : decode cX7_asked 22 = .ok (.if_icmp .ge 16, 3) := by decide +kernel
theorem dX7_asked_25 : decode cX7_asked 25 = .ok (.aload_n 0, 1) := by decide +kernel
theorem dX7_asked_26 : decode cX7_asked 26 = .ok (.getfield 48, 3) := by decide +kernel
theorem dX7_asked_29 : decode cX7_asked 29 = .ok (.getfield 121, 3) := by decide +kernel
theorem dX7_asked_32 : decode cX7_asked 32 = .ok (.iload_n 1, 1) := by decide +kernel
theorem dX7_asked_33 : decode cX7_asked 33 = .ok (.iload_n 2, 1) := by decide +kernel
theorem dX7_asked_34 : decode cX7_asked 34 = .ok (.invokevirtual 194, 3) := by decide +kernel
theorem dX7_asked_37 : decode cX7_asked 37 = .ok (.ireturn, 1) := by decide +kernel
theorem dX7_asked_38 : decode cX7_asked 38 = .ok (.aload_n 0, 1) := by decide +kernel
theorem dX7_asked_39 : decode cX7_asked 39 = .ok (.aload_n 0, 1) := by decide +kernel
theorem dX7_asked_40 : decode cX7_asked 40 = .ok (.getfield 48, 3) := by decide +kernel
theorem dX7_asked_43 : decode cX7_asked 43 = .ok (.getfield 121, 3) := by decide +kernel
theorem dX7_asked_46 : decode cX7_asked 46 = .ok (.iload_n 1, 1) := by decide +kernel
theorem dX7_asked_47 : decode cX7_asked 47 = .ok (.iconst 0, 1) := by decide +kernel
theorem dX7_asked_48 : decode cX7_asked 48 = .ok (.invokevirtual 194, 3) := by decide +kernel
theorem dX7_asked_51 : decode cX7_asked 51 = .ok (.aload_n 0, 1) := by decide +kernel
theorem dX7_asked_52 : decode cX7_asked 52 = .ok (.getfield 48, 3) := by decide +kernel
theorem dX7_asked_55 : decode cX7_asked 55 = .ok (.getfield 121, 3) := by decide +kernel
theorem dX7_asked_58 : decode cX7_asked 58 = .ok (.iload_n 1, 1) := by decide +kernel
theorem dX7_asked_59 : decode cX7_asked 59 = .ok (.iconst 1, 1) := by decide +kernel
theorem dX7_asked_60 : decode cX7_asked 60 = .ok (.invokevirtual 194, 3) := by decide +kernel
theorem dX7_asked_63 : decode cX7_asked 63 = .ok (.invokevirtual 197, 3) := by decide +kernel
theorem dX7_asked_66 : decode cX7_asked 66 = .ok (.istore_n 3, 1) := by decide +kernel
theorem dX7_asked_67 : decode cX7_asked 67 = .ok (.iload_n 3, 1) := by decide +kernel
theorem dX7_asked_68 : decode cX7_asked 68 = .ok (.aload_n 0, 1) := by decide +kernel
theorem dX7_asked_69 : decode cX7_asked 69 = .ok (.getfield 48, 3) := by decide +kernel
theorem dX7_asked_72 : decode cX7_asked 72 = .ok (.getfield 121, 3) := by decide +kernel
theorem dX7_asked_75 : decode cX7_asked 75 = .ok (.iload_n 1, 1) := by decide +kernel
theorem dX7_asked_76 : decode cX7_asked 76 = .ok (.iconst 3, 1) := by decide +kernel
theorem dX7_asked_77 : decode cX7_asked 77 = .ok (.invokevirtual 194, 3) := by decide +kernel
theorem dX7_asked_80 : decode cX7_asked 80 = .ok (.isub, 1) := by decide +kernel
theorem dX7_asked_81 : decode cX7_asked 81 = .ok (.ireturn, 1) := by decide +kernel
set_option maxRecDepth 20000 in
theorem ggX7_nearest_X7_checkSpan : GoodIn wsX7_nearest wsX7_checkSpan := goodIn_ca (goodIn_r _ [6, 7, 8, 5, 9, 10, 11] (by decide +kernel) (by decide +kernel)) (goodIn_sub (fun _ h => List.mem_cons_of_mem _ (List.mem_append_right _ h)) (by decide +kernel))
set_option maxRecDepth 20000 in
theorem gX7_nearest_X7_checkSpan : GoodIn wsX7_nearest (va_wsS RX7 175 yX7_checkSpan wsX7_checkSpan) := goodIn_app (goodIn_of _ (by decide +kernel)) ggX7_nearest_X7_checkSpan
set_option maxRecDepth 20000 in
theorem ggX7_nearest_X4_nearestTo : GoodIn wsX7_nearest wsX4_nearestTo := goodIn_r _ [16, 17, 18, 19, 20, 21, 22, 23, 24, 25, 26, 27, 15, 28, 29, 47, 48] (by decide +kernel) (by decide +kernel)
set_option maxRecDepth 20000 in
theorem gX7_nearest_X4_nearestTo : GoodIn wsX7_nearest (wsV RX7 200 RX4 yX4_nearestTo wsX4_nearestTo) := goodIn_app (goodIn_of _ (by decide +kernel)) ggX7_nearest_X4_nearestTo
theorem dX7_nearest_0 : decode cX7_nearest 0 = .ok (.iload_n 1, 1) := by decide +kernel
theorem dX7_nearest_1 : decode cX7_nearest 1 = .ok (.iload_n 2, 1) := by decide +kernel
theorem dX7_nearest_2 : decode cX7_nearest 2 = .ok (.invokestatic 175, 3) := by decide +kernel
theorem dX7_nearest_5 : decode cX7_nearest 5 = .ok (.aload_n 0, 1) := by decide +kernel
theorem dX7_nearest_6 : decode cX7_nearest 6 = .ok (.getfield 48, 3) := by decide +kernel
theorem dX7_nearest_9 : decode cX7_nearest 9 = .ok (.getfield 121, 3) := by decide +kernel
theorem dX7_nearest_12 : decode cX7_nearest 12 = .ok (.iload_n 1, 1) := by decide +kernel
theorem dX7_nearest_13 : decode cX7_nearest 13 = .ok (.iload_n 2, 1) := by decide +kernel
theorem dX7_nearest_14 : decode cX7_nearest 14 = .ok (.invokevirtual 200, 3) := by decide +kernel
theorem dX7_nearest_17 : decode cX7_nearest 17 = .ok (.ireturn, 1) := by decide +kernel
set_option maxRecDepth 20000 in
theorem ggX7_costOf_X7_checkSpan : GoodIn wsX7_costOf wsX7_checkSpan := goodIn_ca (goodIn_r _ [4, 5, 6, 3, 7, 8, 9] (by decide +kernel) (by decide +kernel)) (goodIn_sub (fun _ h => List.mem_cons_of_mem _ (List.mem_append_right _ h)) (by decide +kernel))
set_option maxRecDepth 20000 in
theorem gX7_costOf_X7_checkSpan : GoodIn wsX7_costOf (va_wsS RX7 175 yX7_checkSpan wsX7_checkSpan) := goodIn_app (goodIn_of _ (by decide +kernel)) ggX7_costOf_X7_checkSpan
set_option maxRecDepth 20000 in
theorem ggX7_costOf_X7_costNow : GoodIn wsX7_costOf wsX7_costNow := goodIn_r _ [13, 14, 15, 16, 17, 18, 19, 20, 21, 22, 23, 24, 25, 26, 27, 28, 29, 30, 31, 32, 33, 34, 35, 36, 37, 38, 39, 3, 40, 41, 42, 43, 44, 45, 46, 47, 48, 49, 50, 51, 52, 53, 54, 55, 56, 57, 58, 59, 60, 61, 62, 63, 64, 65, 66, 67, 68, 69, 70, 71, 72, 73, 74, 75, 76, 77, 78, 79, 80, 81, 82, 83, 84, 85, 86, 87, 88, 89, 90, 91, 92, 93, 94, 95, 96, 97, 98, 99, 100, 101, 102, 103, 104, 105, 106, 107, 108, 109, 110, 111, 112, 113, 114, 115, 116, 117, 118, 119, 120, 121, 122, 123, 124, 125, 126, 127, 128, 129, 130, 131, 132, 133, 134, 135, 136, 137, 138, 139, 140, 141, 142, 143, 144, 145, 146, 147, 148, 149, 150, 151, 152, 153, 154, 155, 156, 157, 158, 159, 160, 161, 162, 163, 164, 165, 166, 167, 168, 169, 170, 171, 172, 173, 174, 175, 176, 177, 178, 179, 180, 181, 182, 183, 184, 185, 186, 187, 188, 189, 190, 191, 192, 193, 194, 195, 196, 197, 198, 199, 200, 201, 202, 203, 204, 205, 206, 207, 208, 209, 210, 211, 212, 213, 214, 215, 216, 217, 218, 219, 220, 221, 222, 223, 224, 225, 226, 227, 228, 229, 230, 231, 232, 233, 234, 235, 236, 237, 238, 239, 240, 241, 242, 243, 244, 245, 246, 247, 248, 249, 250, 251, 252, 253, 254, 255, 256, 257, 258, 259, 260, 261, 262, 263, 264, 265, 266, 267, 268, 269, 270, 271, 272, 273, 274, 275, 276, 277, 278, 279, 280, 281, 282, 283, 284, 285, 286, 287, 288, 289, 290, 291, 292, 293, 294, 295, 296, 297, 298, 299, 300, 301, 302] (by decide +kernel) (by decide +kernel)
set_option maxRecDepth 20000 in
theorem gX7_costOf_X7_costNow : GoodIn wsX7_costOf (wsV RX7 197 RX7 yX7_costNow wsX7_costNow) := goodIn_app (goodIn_of _ (by decide +kernel)) ggX7_costOf_X7_costNow
theorem dX7_costOf_0 : decode cX7_costOf 0 = .ok (.iload_n 1, 1) := by decide +kernel
theorem dX7_costOf_1 : decode cX7_costOf 1 = .ok (.iload_n 2, 1) := by decide +kernel
theorem dX7_costOf_2 : decode cX7_costOf 2 = .ok (.invokestatic 175, 3) := by decide +kernel
theorem dX7_costOf_5 : decode cX7_costOf 5 = .ok (.aload_n 0, 1) := by decide +kernel
theorem dX7_costOf_6 : decode cX7_costOf 6 = .ok (.iload_n 1, 1) := by decide +kernel
theorem dX7_costOf_7 : decode cX7_costOf 7 = .ok (.iload_n 2, 1) := by decide +kernel
theorem dX7_costOf_8 : decode cX7_costOf 8 = .ok (.invokevirtual 197, 3) := by decide +kernel
theorem dX7_costOf_11 : decode cX7_costOf 11 = .ok (.ireturn, 1) := by decide +kernel
set_option maxRecDepth 20000 in
theorem ggX7_scan_X7_checkSpan : GoodIn wsX7_scan wsX7_checkSpan := goodIn_ca (goodIn_r _ [7, 8, 9, 6, 10, 11, 12] (by decide +kernel) (by decide +kernel)) (goodIn_sub (fun _ h => List.mem_cons_of_mem _ (List.mem_append_right _ h)) (by decide +kernel))
set_option maxRecDepth 20000 in
theorem gX7_scan_X7_checkSpan : GoodIn wsX7_scan (va_wsS RX7 175 yX7_checkSpan wsX7_checkSpan) := goodIn_app (goodIn_of _ (by decide +kernel)) ggX7_scan_X7_checkSpan
set_option maxRecDepth 20000 in
theorem ggX7_scan_X7_checkRange : GoodIn wsX7_scan wsX7_checkRange := goodIn_ca (goodIn_r _ [10, 11, 12] (by decide +kernel) (by decide +kernel)) (goodIn_sub (fun _ h => List.mem_cons_of_mem _ (List.mem_append_right _ h)) (by decide +kernel))
set_option maxRecDepth 20000 in
theorem gX7_scan_X7_checkRange : GoodIn wsX7_scan (va_wsS RX7 67 yX7_checkRange wsX7_checkRange) := goodIn_app (goodIn_of _ (by decide +kernel)) ggX7_scan_X7_checkRange
set_option maxRecDepth 20000 in
theorem ggX7_scan_X6_tallyLiving : GoodIn wsX7_scan wsX6_tallyLiving := goodIn_r _ [17, 18, 19, 20, 21, 22, 23, 24, 25, 26, 27, 16, 28, 29, 30, 31, 32, 33, 34, 35, 36, 37, 38, 39, 40, 41, 42, 43, 44, 45, 46, 47, 48, 49, 50, 51, 52, 53, 54, 55, 56, 57, 58, 80, 81, 82, 83, 84, 85] (by decide +kernel) (by decide +kernel)
set_option maxRecDepth 20000 in
theorem gX7_scan_X6_tallyLiving : GoodIn wsX7_scan (wsV RX7 203 RX6 yX6_tallyLiving wsX6_tallyLiving) := goodIn_app (goodIn_of _ (by decide +kernel)) ggX7_scan_X6_tallyLiving
set_option maxRecDepth 20000 in
theorem ggX7_scan_X0_numberAt : GoodIn wsX7_scan wsX0_numberAt := goodIn_r _ [62, 24, 84, 85] (by decide +kernel) (by decide +kernel)
set_option maxRecDepth 20000 in
theorem gX7_scan_X0_numberAt : GoodIn wsX7_scan (wsV RX7 184 RX0 yX0_numberAt wsX0_numberAt) := goodIn_app (goodIn_of _ (by decide +kernel)) ggX7_scan_X0_numberAt
theorem dX7_scan_0 : decode cX7_scan 0 = .ok (.iload_n 1, 1) := by decide +kernel
theorem dX7_scan_1 : decode cX7_scan 1 = .ok (.iload_n 2, 1) := by decide +kernel
theorem dX7_scan_2 : decode cX7_scan 2 = .ok (.invokestatic 175, 3) := by decide +kernel
theorem dX7_scan_5 : decode cX7_scan 5 = .ok (.iload_n 3, 1) := by decide +kernel
theorem dX7_scan_6 : decode cX7_scan 6 = .ok (.iconst 0, 1) := by decide +kernel
theorem dX7_scan_7 : decode cX7_scan 7 = .ok (.iconst 3, 1) := by decide +kernel
theorem dX7_scan_8 : decode cX7_scan 8 = .ok (.invokestatic 67, 3) := by decide +kernel
theorem dX7_scan_11 : decode cX7_scan 11 = .ok (.aload_n 0, 1) := by decide +kernel
theorem dX7_scan_12 : decode cX7_scan 12 = .ok (.getfield 48, 3) := by decide +kernel
theorem dX7_scan_15 : decode cX7_scan 15 = .ok (.getfield 83, 3) := by decide +kernel
theorem dX7_scan_18 : decode cX7_scan 18 = .ok (.iload_n 1, 1) := by decide +kernel
theorem dX7_scan_19 : decode cX7_scan 19 = .ok (.iload_n 2, 1) := by decide +kernel
theorem dX7_scan_20 : decode cX7_scan 20 = .ok (.aload_n 0, 1) := by decide +kernel
theorem dX7_scan_21 : decode cX7_scan 21 = .ok (.getfield 33, 3) := by decide +kernel
theorem dX7_scan_24 : decode cX7_scan 24 = .ok (.invokevirtual 203, 3) := by decide +kernel
theorem dX7_scan_27 : decode cX7_scan 27 = .ok (.aload_n 0, 1) := by decide +kernel
theorem dX7_scan_28 : decode cX7_scan 28 = .ok (.getfield 33, 3) := by decide +kernel
theorem dX7_scan_31 : decode cX7_scan 31 = .ok (.iload_n 3, 1) := by decide +kernel
theorem dX7_scan_32 : decode cX7_scan 32 = .ok (.invokevirtual 184, 3) := by decide +kernel
theorem dX7_scan_35 : decode cX7_scan 35 = .ok (.ireturn, 1) := by decide +kernel
set_option maxRecDepth 20000 in
theorem ggX7_mean_X7_checkSpan : GoodIn wsX7_mean wsX7_checkSpan := goodIn_ca (goodIn_r _ [9, 10, 11, 8, 12, 13, 14] (by decide +kernel) (by decide +kernel)) (goodIn_sub (fun _ h => List.mem_cons_of_mem _ (List.mem_append_right _ h)) (by decide +kernel))
set_option maxRecDepth 20000 in
theorem gX7_mean_X7_checkSpan : GoodIn wsX7_mean (va_wsS RX7 175 yX7_checkSpan wsX7_checkSpan) := goodIn_app (goodIn_of _ (by decide +kernel)) ggX7_mean_X7_checkSpan
set_option maxRecDepth 20000 in
theorem ggX7_mean_X6_tallyLiving : GoodIn wsX7_mean wsX6_tallyLiving := goodIn_r _ [19, 20, 21, 22, 23, 24, 25, 26, 27, 28, 29, 18, 30, 31, 32, 33, 34, 35, 36, 37, 38, 39, 40, 41, 42, 43, 44, 45, 46, 47, 48, 49, 50, 51, 52, 53, 54, 55, 56, 57, 58, 59, 60, 82, 83, 84, 85, 86, 87] (by decide +kernel) (by decide +kernel)
set_option maxRecDepth 20000 in
theorem gX7_mean_X6_tallyLiving : GoodIn wsX7_mean (wsV RX7 203 RX6 yX6_tallyLiving wsX6_tallyLiving) := goodIn_app (goodIn_of _ (by decide +kernel)) ggX7_mean_X6_tallyLiving
set_option maxRecDepth 20000 in
theorem ggX7_mean_X0_numberAt : GoodIn wsX7_mean wsX0_numberAt := goodIn_r _ [64, 26, 86, 87] (by decide +kernel) (by decide +kernel)
set_option maxRecDepth 20000 in
theorem gX7_mean_X0_numberAt : GoodIn wsX7_mean (wsV RX7 184 RX0 yX0_numberAt wsX0_numberAt) := goodIn_app (goodIn_of _ (by decide +kernel)) ggX7_mean_X0_numberAt
theorem dX7_mean_0 : decode cX7_mean 0 = .ok (.iload_n 1, 1) := by decide +kernel
theorem dX7_mean_1 : decode cX7_mean 1 = .ok (.iload_n 2, 1) := by decide +kernel
theorem dX7_mean_2 : decode cX7_mean 2 = .ok (.invokestatic 175, 3) := by decide +kernel
theorem dX7_mean_5 : decode cX7_mean 5 = .ok (.aload_n 0, 1) := by decide +kernel
theorem dX7_mean_6 : decode cX7_mean 6 = .ok (.getfield 48, 3) := by decide +kernel
theorem dX7_mean_9 : decode cX7_mean 9 = .ok (.getfield 83, 3) := by decide +kernel
theorem dX7_mean_12 : decode cX7_mean 12 = .ok (.iload_n 1, 1) := by decide +kernel
theorem dX7_mean_13 : decode cX7_mean 13 = .ok (.iload_n 2, 1) := by decide +kernel
theorem dX7_mean_14 : decode cX7_mean 14 = .ok (.aload_n 0, 1) := by decide +kernel
theorem dX7_mean_15 : decode cX7_mean 15 = .ok (.getfield 33, 3) := by decide +kernel
theorem dX7_mean_18 : decode cX7_mean 18 = .ok (.invokevirtual 203, 3) := by decide +kernel
theorem dX7_mean_21 : decode cX7_mean 21 = .ok (.aload_n 0, 1) := by decide +kernel
theorem dX7_mean_22 : decode cX7_mean 22 = .ok (.getfield 33, 3) := by decide +kernel
theorem dX7_mean_25 : decode cX7_mean 25 = .ok (.iconst 0, 1) := by decide +kernel
theorem dX7_mean_26 : decode cX7_mean 26 = .ok (.invokevirtual 184, 3) := by decide +kernel
theorem dX7_mean_29 : decode cX7_mean 29 = .ok (.istore_n 3, 1) := by decide +kernel
theorem dX7_mean_30 : decode cX7_mean 30 = .ok (.iload_n 3, 1) := by decide +kernel
theorem dX7_mean_31 : decode cX7_mean 31 = .ok (.ifCond .ne 11, 3) := by decide +kernel
theorem dX7_mean_34 : decode cX7_mean 34 = .ok (.new 191, 3) := by decide +kernel
theorem dX7_mean_37 : decode cX7_mean 37 = .ok (.dup, 1) := by decide +kernel
theorem dX7_mean_38 : decode cX7_mean 38 = .ok (.invokespecial 193, 3) := by decide +kernel
theorem dX7_mean_41 : decode cX7_mean 41 = .ok (.athrow, 1) := by decide +kernel
theorem dX7_mean_42 : decode cX7_mean 42 = .ok (.aload_n 0, 1) := by decide +kernel
theorem dX7_mean_43 : decode cX7_mean 43 = .ok (.getfield 33, 3) := by decide +kernel
theorem dX7_mean_46 : decode cX7_mean 46 = .ok (.iconst 1, 1) := by decide +kernel
theorem dX7_mean_47 : decode cX7_mean 47 = .ok (.invokevirtual 184, 3) := by decide +kernel
theorem dX7_mean_50 : decode cX7_mean 50 = .ok (.i2f, 1) := by decide +kernel
theorem dX7_mean_51 : decode cX7_mean 51 = .ok (.iload_n 3, 1) := by decide +kernel
theorem dX7_mean_52 : decode cX7_mean 52 = .ok (.i2f, 1) := by decide +kernel
theorem dX7_mean_53 : decode cX7_mean 53 = .ok (.fdiv, 1) := by decide +kernel
theorem dX7_mean_54 : decode cX7_mean 54 = .ok (.freturn, 1) := by decide +kernel
set_option maxRecDepth 20000 in
theorem ggX7_ordered_X6_livingCount : GoodIn wsX7_ordered wsX6_livingCount := goodIn_r _ [7, 8, 9, 10, 11, 6, 12, 13, 14, 15, 16, 17, 58, 59, 60, 61] (by decide +kernel) (by decide +kernel)
set_option maxRecDepth 20000 in
theorem gX7_ordered_X6_livingCount : GoodIn wsX7_ordered (wsV RX7 92 RX6 yX6_livingCount wsX6_livingCount) := goodIn_app (goodIn_of _ (by decide +kernel)) ggX7_ordered_X6_livingCount
set_option maxRecDepth 20000 in
theorem ggX7_ordered_X7_checkIndex : GoodIn wsX7_ordered wsX7_checkIndex := goodIn_ca (goodIn_r _ [21, 22, 23] (by decide +kernel) (by decide +kernel)) (goodIn_sub (fun _ h => List.mem_cons_of_mem _ (List.mem_append_right _ h)) (by decide +kernel))
set_option maxRecDepth 20000 in
theorem gX7_ordered_X7_checkIndex : GoodIn wsX7_ordered (va_wsS RX7 131 yX7_checkIndex wsX7_checkIndex) := goodIn_app (goodIn_of _ (by decide +kernel)) ggX7_ordered_X7_checkIndex
set_option maxRecDepth 20000 in
theorem ggX7_ordered_X6_livingAt : GoodIn wsX7_ordered wsX6_livingAt := goodIn_r _ [27, 8, 9, 10, 11, 6, 12, 13, 14, 15, 16, 17, 28, 29, 30, 31, 32, 33, 34, 35, 36, 37, 38, 39, 40, 58, 59, 60, 61] (by decide +kernel) (by decide +kernel)
set_option maxRecDepth 20000 in
theorem gX7_ordered_X6_livingAt : GoodIn wsX7_ordered (wsV RX7 207 RX6 yX6_livingAt wsX6_livingAt) := goodIn_app (goodIn_of _ (by decide +kernel)) ggX7_ordered_X6_livingAt
theorem dX7_ordered_0 : decode cX7_ordered 0 = .ok (.iload_n 1, 1) := by decide +kernel
theorem dX7_ordered_1 : decode cX7_ordered 1 = .ok (.aload_n 0, 1) := by decide +kernel
theorem dX7_ordered_2 : decode cX7_ordered 2 = .ok (.getfield 48, 3) := by decide +kernel
theorem dX7_ordered_5 : decode cX7_ordered 5 = .ok (.getfield 83, 3) := by decide +kernel
theorem dX7_ordered_8 : decode cX7_ordered 8 = .ok (.invokevirtual 92, 3) := by decide +kernel
theorem dX7_ordered_11 : decode cX7_ordered 11 = .ok (.invokestatic 131, 3) := by decide +kernel
theorem dX7_ordered_14 : decode cX7_ordered 14 = .ok (.aload_n 0, 1) := by decide +kernel
theorem dX7_ordered_15 : decode cX7_ordered 15 = .ok (.getfield 48, 3) := by decide +kernel
theorem dX7_ordered_18 : decode cX7_ordered 18 = .ok (.getfield 83, 3) := by decide +kernel
theorem dX7_ordered_21 : decode cX7_ordered 21 = .ok (.iload_n 1, 1) := by decide +kernel
theorem dX7_ordered_22 : decode cX7_ordered 22 = .ok (.invokevirtual 207, 3) := by decide +kernel
theorem dX7_ordered_25 : decode cX7_ordered 25 = .ok (.ireturn, 1) := by decide +kernel
set_option maxRecDepth 20000 in
theorem ggX7_insert_X7_checkRange : GoodIn wsX7_insert wsX7_checkRange := goodIn_ca (goodIn_r _ [9, 10, 11] (by decide +kernel) (by decide +kernel)) (goodIn_sub (fun _ h => List.mem_cons_of_mem _ (List.mem_append_right _ h)) (by decide +kernel))
set_option maxRecDepth 20000 in
theorem gX7_insert_X7_checkRange : GoodIn wsX7_insert (va_wsS RX7 67 yX7_checkRange wsX7_checkRange) := goodIn_app (goodIn_of _ (by decide +kernel)) ggX7_insert_X7_checkRange
set_option maxRecDepth 20000 in
theorem ggX7_insert_X7_remember : GoodIn wsX7_insert wsX7_remember := goodIn_r _ [15, 16, 17, 3, 18, 19, 20, 8, 21, 22, 23, 24, 25, 26, 27, 28, 29, 30, 31, 32, 33, 34, 35, 36, 37, 38, 39, 40, 41, 42, 43, 44, 45, 46, 47, 48, 49, 50, 51, 52, 53, 54, 55, 56, 57, 58, 59, 60, 61, 62, 63, 64, 65, 66, 67, 68, 69, 70, 71, 72, 73, 74, 75, 76, 77, 78, 79, 177, 178, 179, 180, 181, 182, 183, 184, 185, 186, 187, 188, 189, 190, 191, 192, 193, 194, 195, 196, 197, 198, 199, 200, 201, 202, 203, 204, 205, 206, 207, 208, 209] (by decide +kernel) (by decide +kernel)
set_option maxRecDepth 20000 in
theorem gX7_insert_X7_remember : GoodIn wsX7_insert (wsV RX7 76 RX7 yX7_remember wsX7_remember) := goodIn_app (goodIn_of _ (by decide +kernel)) ggX7_insert_X7_remember
set_option maxRecDepth 20000 in
theorem ggX7_insert_X2_insertRow : GoodIn wsX7_insert wsX2_insertRow := goodIn_r _ [83, 27, 84, 85, 86, 38, 87, 43, 40, 41, 42, 88, 89, 90, 25, 91, 33, 32, 92, 93, 94, 95, 34, 96, 97, 98, 99, 31, 100, 8, 101, 102, 103, 104, 105, 106, 107, 108, 109, 110, 47, 48, 49, 111, 112, 113, 114, 28, 115, 116, 117, 118, 119, 120, 121, 122, 57, 123, 65, 60, 124, 125, 126, 127, 128, 129, 130, 131, 132, 64, 59, 133, 51, 52, 53, 134, 135, 136, 137, 138, 139, 61, 140, 141, 142, 143, 144, 145, 146, 147, 63, 148, 149, 150, 151, 152, 153, 154, 155, 156, 157, 158, 159, 160, 161, 162, 163, 164, 165, 166, 167, 168, 169, 170, 171, 172, 173, 174, 175, 176, 186, 187, 188, 189, 190, 191, 192, 193, 194, 195, 196, 197, 198, 199, 200, 201, 202, 203, 204, 205] (by decide +kernel) (by decide +kernel)
set_option maxRecDepth 20000 in
theorem gX7_insert_X2_insertRow : GoodIn wsX7_insert (wsV RX7 210 RX2 yX2_insertRow wsX2_insertRow) := goodIn_app (goodIn_of _ (by decide +kernel)) ggX7_insert_X2_insertRow
theorem dX7_insert_0 : decode cX7_insert 0 = .ok (.iload_n 1, 1) := by decide +kernel
theorem dX7_insert_1 : decode cX7_insert 1 = .ok (.iconst 0, 1) := by decide +kernel
theorem dX7_insert_2 : decode cX7_insert 2 = .ok (.sipush 9999, 3) := by decide +kernel
theorem dX7_insert_5 : decode cX7_insert 5 = .ok (.invokestatic 67, 3) := by decide +kernel
theorem dX7_insert_8 : decode cX7_insert 8 = .ok (.iload_n 2, 1) := by decide +kernel
theorem dX7_insert_9 : decode cX7_insert 9 = .ok (.bipush (-99), 2) := by decide +kernel
theorem dX7_insert_11 : decode cX7_insert 11 = .ok (.bipush 99, 2) := by decide +kernel
theorem dX7_insert_13 : decode cX7_insert 13 = .ok (.invokestatic 67, 3) := by decide +kernel
theorem dX7_insert_16 : decode cX7_insert 16 = .ok (.aload_n 0, 1) := by decide +kernel
theorem dX7_insert_17 : decode cX7_insert 17 = .ok (.getfield 48, 3) := by decide +kernel
theorem dX7_insert_20 : decode cX7_insert 20 = .ok (.getfield 83, 3) := by decide +kernel
theorem dX7_insert_23 : decode cX7_insert 23 = .ok (.getfield 87, 3) := by decide +kernel
theorem dX7_insert_26 : decode cX7_insert 26 = .ok (.bipush 120, 2) := by decide +kernel
theorem dX7_insert_28 : decode cX7_insert 28 = .ok (.if_icmp .lt 11, 3) := by decide +kernel
theorem dX7_insert_31 : decode cX7_insert 31 = .ok (.new 61, 3) := by decide +kernel
theorem dX7_insert_34 : decode cX7_insert 34 = .ok (.dup, 1) := by decide +kernel
theorem dX7_insert_35 : decode cX7_insert 35 = .ok (.invokespecial 63, 3) := by decide +kernel
theorem dX7_insert_38 : decode cX7_insert 38 = .ok (.athrow, 1) := by decide +kernel
theorem dX7_insert_39 : decode cX7_insert 39 = .ok (.aload_n 0, 1) := by decide +kernel
theorem dX7_insert_40 : decode cX7_insert 40 = .ok (.invokevirtual 76, 3) := by decide +kernel
theorem dX7_insert_43 : decode cX7_insert 43 = .ok (.aload_n 0, 1) := by decide +kernel
theorem dX7_insert_44 : decode cX7_insert 44 = .ok (.getfield 48, 3) := by decide +kernel
theorem dX7_insert_47 : decode cX7_insert 47 = .ok (.iload_n 1, 1) := by decide +kernel
theorem dX7_insert_48 : decode cX7_insert 48 = .ok (.iload_n 2, 1) := by decide +kernel
theorem dX7_insert_49 : decode cX7_insert 49 = .ok (.invokevirtual 210, 3) := by decide +kernel
theorem dX7_insert_52 : decode cX7_insert 52 = .ok (.ireturn, 1) := by decide +kernel
set_option maxRecDepth 20000 in
theorem ggX7_delete_X7_checkIndex : GoodIn wsX7_delete wsX7_checkIndex := goodIn_ca (goodIn_r _ [10, 11, 12] (by decide +kernel) (by decide +kernel)) (goodIn_sub (fun _ h => List.mem_cons_of_mem _ (List.mem_append_right _ h)) (by decide +kernel))
set_option maxRecDepth 20000 in
theorem gX7_delete_X7_checkIndex : GoodIn wsX7_delete (va_wsS RX7 131 yX7_checkIndex wsX7_checkIndex) := goodIn_app (goodIn_of _ (by decide +kernel)) ggX7_delete_X7_checkIndex
set_option maxRecDepth 20000 in
theorem ggX7_delete_X6_lives : GoodIn wsX7_delete wsX6_lives := goodIn_r _ [17, 18, 19, 20, 16, 21, 22, 196, 197, 198, 199] (by decide +kernel) (by decide +kernel)
set_option maxRecDepth 20000 in
theorem gX7_delete_X6_lives : GoodIn wsX7_delete (wsV RX7 213 RX6 yX6_lives wsX6_lives) := goodIn_app (goodIn_of _ (by decide +kernel)) ggX7_delete_X6_lives
set_option maxRecDepth 20000 in
theorem ggX7_delete_X7_remember : GoodIn wsX7_delete wsX7_remember := goodIn_r _ [26, 27, 28, 3, 29, 30, 31, 9, 32, 33, 34, 35, 36, 37, 38, 39, 40, 41, 42, 43, 44, 45, 46, 47, 48, 16, 49, 50, 51, 22, 52, 53, 54, 55, 56, 57, 58, 59, 60, 61, 62, 63, 64, 65, 66, 67, 68, 69, 70, 71, 72, 73, 74, 75, 76, 77, 78, 79, 80, 81, 82, 83, 84, 85, 86, 87, 88, 179, 180, 181, 182, 183, 184, 185, 186, 187, 188, 189, 190, 191, 192, 193, 194, 195, 196, 197, 198, 199, 200, 201, 202, 203, 204, 205, 206, 207, 208, 209, 210, 211] (by decide +kernel) (by decide +kernel)
set_option maxRecDepth 20000 in
theorem gX7_delete_X7_remember : GoodIn wsX7_delete (wsV RX7 76 RX7 yX7_remember wsX7_remember) := goodIn_app (goodIn_of _ (by decide +kernel)) ggX7_delete_X7_remember
set_option maxRecDepth 20000 in
theorem ggX7_delete_X2_deleteRow : GoodIn wsX7_delete wsX2_deleteRow := goodIn_r _ [92, 38, 93, 19, 20, 16, 21, 22, 94, 95, 96, 97, 98, 99, 100, 36, 101, 44, 102, 56, 57, 58, 43, 103, 104, 105, 106, 107, 108, 109, 110, 45, 111, 112, 113, 114, 42, 115, 9, 116, 117, 118, 119, 120, 121, 122, 123, 124, 39, 125, 126, 127, 128, 129, 50, 130, 131, 132, 66, 133, 74, 69, 134, 135, 136, 137, 138, 73, 68, 139, 60, 61, 62, 140, 141, 142, 143, 144, 145, 70, 146, 147, 148, 149, 150, 151, 152, 153, 72, 154, 155, 156, 157, 158, 159, 160, 161, 162, 163, 164, 165, 166, 167, 168, 169, 170, 171, 172, 173, 174, 175, 176, 177, 178, 188, 189, 190, 191, 192, 193, 194, 195, 196, 197, 198, 199, 200, 201, 202, 203, 204, 205, 206, 207] (by decide +kernel) (by decide +kernel)
set_option maxRecDepth 20000 in
theorem gX7_delete_X2_deleteRow : GoodIn wsX7_delete (wsV RX7 216 RX2 yX2_deleteRow wsX2_deleteRow) := goodIn_app (goodIn_of _ (by decide +kernel)) ggX7_delete_X2_deleteRow
theorem dX7_delete_0 : decode cX7_delete 0 = .ok (.iload_n 1, 1) := by decide +kernel
theorem dX7_delete_1 : decode cX7_delete 1 = .ok (.aload_n 0, 1) := by decide +kernel
theorem dX7_delete_2 : decode cX7_delete 2 = .ok (.getfield 48, 3) := by decide +kernel
theorem dX7_delete_5 : decode cX7_delete 5 = .ok (.getfield 83, 3) := by decide +kernel
theorem dX7_delete_8 : decode cX7_delete 8 = .ok (.getfield 87, 3) := by decide +kernel
theorem dX7_delete_11 : decode cX7_delete 11 = .ok (.invokestatic 131, 3) := by decide +kernel
theorem dX7_delete_14 : decode cX7_delete 14 = .ok (.aload_n 0, 1) := by decide +kernel
theorem dX7_delete_15 : decode cX7_delete 15 = .ok (.getfield 48, 3) := by decide +kernel
theorem dX7_delete_18 : decode cX7_delete 18 = .ok (.getfield 83, 3) := by decide +kernel
theorem dX7_delete_21 : decode cX7_delete 21 = .ok (.iload_n 1, 1) := by decide +kernel
theorem dX7_delete_22 : decode cX7_delete 22 = .ok (.invokevirtual 213, 3) := by decide +kernel
theorem dX7_delete_25 : decode cX7_delete 25 = .ok (.ifCond .ne 11, 3) := by decide +kernel
theorem dX7_delete_28 : decode cX7_delete 28 = .ok (.new 61, 3) := by decide +kernel
theorem dX7_delete_31 : decode cX7_delete 31 = .ok (.dup, 1) := by decide +kernel
theorem dX7_delete_32 : decode cX7_delete 32 = .ok (.invokespecial 63, 3) := by decide +kernel
theorem dX7_delete_35 : decode cX7_delete 35 = .ok (.athrow, 1) := by decide +kernel
theorem dX7_delete_36 : decode cX7_delete 36 = .ok (.aload_n 0, 1) := by decide +kernel
theorem dX7_delete_37 : decode cX7_delete 37 = .ok (.invokevirtual 76, 3) := by decide +kernel
theorem dX7_delete_40 : decode cX7_delete 40 = .ok (.aload_n 0, 1) := by decide +kernel
theorem dX7_delete_41 : decode cX7_delete 41 = .ok (.getfield 48, 3) := by decide +kernel
theorem dX7_delete_44 : decode cX7_delete 44 = .ok (.iload_n 1, 1) := by decide +kernel
theorem dX7_delete_45 : decode cX7_delete 45 = .ok (.invokevirtual 216, 3) := by decide +kernel
theorem dX7_delete_48 : decode cX7_delete 48 = .ok (.aload_n 0, 1) := by decide +kernel
theorem dX7_delete_49 : decode cX7_delete 49 = .ok (.getfield 48, 3) := by decide +kernel
theorem dX7_delete_52 : decode cX7_delete 52 = .ok (.getfield 105, 3) := by decide +kernel
theorem dX7_delete_55 : decode cX7_delete 55 = .ok (.ireturn, 1) := by decide +kernel
set_option maxRecDepth 20000 in
theorem ggX7_mergeAll_X7_remember : GoodIn wsX7_mergeAll wsX7_remember := goodIn_r _ [6, 7, 8, 1, 9, 10, 11, 5, 12, 13, 14, 15, 16, 17, 18, 19, 20, 21, 22, 23, 24, 25, 26, 27, 28, 29, 30, 31, 32, 33, 34, 35, 36, 37, 38, 39, 40, 41, 42, 43, 44, 45, 46, 47, 48, 49, 50, 51, 52, 53, 54, 55, 56, 57, 58, 59, 60, 61, 62, 63, 64, 65, 66, 67, 68, 69, 70, 150, 151, 152, 153, 154, 155, 156, 157, 158, 159, 160, 161, 162, 163, 164, 165, 166, 167, 168, 169, 170, 171, 172, 173, 174, 175, 176, 177, 178, 179, 180, 181, 182] (by decide +kernel) (by decide +kernel)
set_option maxRecDepth 20000 in
theorem gX7_mergeAll_X7_remember : GoodIn wsX7_mergeAll (wsV RX7 76 RX7 yX7_remember wsX7_remember) := goodIn_app (goodIn_of _ (by decide +kernel)) ggX7_mergeAll_X7_remember
set_option maxRecDepth 20000 in
theorem ggX7_mergeAll_X2_mergeEverything : GoodIn wsX7_mergeAll wsX2_mergeEverything := goodIn_r _ [74, 25, 75, 76, 77, 16, 78, 24, 79, 38, 39, 40, 23, 18, 80, 81, 82, 29, 83, 84, 85, 86, 87, 31, 88, 89, 90, 91, 19, 92, 93, 94, 95, 96, 48, 97, 56, 51, 98, 99, 100, 101, 33, 102, 103, 104, 105, 106, 55, 50, 107, 42, 43, 44, 108, 109, 110, 111, 112, 113, 52, 114, 115, 116, 117, 118, 119, 120, 121, 54, 122, 123, 124, 125, 126, 127, 128, 129, 130, 131, 132, 133, 134, 135, 136, 137, 138, 139, 140, 141, 142, 143, 144, 145, 146, 147, 148, 149, 159, 160, 161, 162, 163, 164, 165, 166, 167, 168, 169, 170, 171, 172, 173, 174, 175, 176, 177, 178] (by decide +kernel) (by decide +kernel)
set_option maxRecDepth 20000 in
theorem gX7_mergeAll_X2_mergeEverything : GoodIn wsX7_mergeAll (wsV RX7 219 RX2 yX2_mergeEverything wsX2_mergeEverything) := goodIn_app (goodIn_of _ (by decide +kernel)) ggX7_mergeAll_X2_mergeEverything
theorem dX7_mergeAll_0 : decode cX7_mergeAll 0 = .ok (.aload_n 0, 1) := by decide +kernel
theorem dX7_mergeAll_1 : decode cX7_mergeAll 1 = .ok (.invokevirtual 76, 3) := by decide +kernel
theorem dX7_mergeAll_4 : decode cX7_mergeAll 4 = .ok (.aload_n 0, 1) := by decide +kernel
theorem dX7_mergeAll_5 : decode cX7_mergeAll 5 = .ok (.getfield 48, 3) := by decide +kernel
theorem dX7_mergeAll_8 : decode cX7_mergeAll 8 = .ok (.invokevirtual 219, 3) := by decide +kernel
theorem dX7_mergeAll_11 : decode cX7_mergeAll 11 = .ok (.ireturn, 1) := by decide +kernel
set_option maxRecDepth 20000 in
theorem ggX7_set_X7_checkRange : GoodIn wsX7_set wsX7_checkRange := goodIn_ca (goodIn_r _ [5, 6, 7] (by decide +kernel) (by decide +kernel)) (goodIn_sub (fun _ h => List.mem_cons_of_mem _ (List.mem_append_right _ h)) (by decide +kernel))
set_option maxRecDepth 20000 in
theorem gX7_set_X7_checkRange : GoodIn wsX7_set (va_wsS RX7 67 yX7_checkRange wsX7_checkRange) := goodIn_app (goodIn_of _ (by decide +kernel)) ggX7_set_X7_checkRange
set_option maxRecDepth 20000 in
theorem ggX7_set_X7_leastSetting : GoodIn wsX7_set wsX7_leastSetting := goodIn_r _ [10, 11, 12, 13, 4, 14] (by decide +kernel) (by decide +kernel)
set_option maxRecDepth 20000 in
theorem gX7_set_X7_leastSetting : GoodIn wsX7_set (va_wsS RX7 222 yX7_leastSetting wsX7_leastSetting) := goodIn_app (goodIn_of _ (by decide +kernel)) ggX7_set_X7_leastSetting
set_option maxRecDepth 20000 in
theorem ggX7_set_X7_mostSetting : GoodIn wsX7_set wsX7_mostSetting := goodIn_r _ [17, 18, 12, 13, 4, 14] (by decide +kernel) (by decide +kernel)
set_option maxRecDepth 20000 in
theorem gX7_set_X7_mostSetting : GoodIn wsX7_set (va_wsS RX7 225 yX7_mostSetting wsX7_mostSetting) := goodIn_app (goodIn_of _ (by decide +kernel)) ggX7_set_X7_mostSetting
set_option maxRecDepth 20000 in
theorem ggX7_set_X7_remember : GoodIn wsX7_set wsX7_remember := goodIn_r _ [22, 23, 24, 1, 25, 26, 27, 4, 28, 29, 30, 31, 32, 33, 34, 35, 36, 37, 38, 39, 40, 41, 42, 43, 44, 45, 46, 47, 48, 49, 50, 51, 52, 53, 54, 55, 56, 57, 58, 59, 60, 61, 62, 63, 64, 65, 66, 67, 68, 69, 70, 71, 72, 73, 74, 75, 76, 77, 78, 79, 80, 81, 82, 83, 84, 85, 86, 179, 180, 181, 182, 183, 184, 185, 186, 187, 188, 189, 190, 191, 192, 193, 194, 195, 196, 197, 198, 199, 200, 201, 202, 203, 204, 205, 206, 207, 208, 209, 210, 211] (by decide +kernel) (by decide +kernel)
set_option maxRecDepth 20000 in
theorem gX7_set_X7_remember : GoodIn wsX7_set (wsV RX7 76 RX7 yX7_remember wsX7_remember) := goodIn_app (goodIn_of _ (by decide +kernel)) ggX7_set_X7_remember
set_option maxRecDepth 20000 in
theorem ggX7_set_X2_setting : GoodIn wsX7_set wsX2_setting := goodIn_r _ [90, 38, 13, 4, 14, 188, 189, 190, 191, 192, 193, 194, 195] (by decide +kernel) (by decide +kernel)
set_option maxRecDepth 20000 in
theorem gX7_set_X2_setting : GoodIn wsX7_set (wsV RX7 114 RX2 yX2_setting wsX2_setting) := goodIn_app (goodIn_of _ (by decide +kernel)) ggX7_set_X2_setting
set_option maxRecDepth 20000 in
theorem ggX7_set_X2_changeSetting : GoodIn wsX7_set wsX2_changeSetting := goodIn_r _ [94, 95, 96, 97, 32, 98, 38, 13, 4, 14, 99, 100, 101, 102, 40, 41, 103, 88, 89, 90, 104, 105, 106, 107, 39, 108, 109, 110, 111, 112, 54, 55, 56, 113, 114, 115, 116, 35, 117, 34, 118, 119, 120, 45, 121, 47, 122, 123, 124, 64, 125, 72, 67, 126, 127, 128, 129, 49, 130, 131, 132, 133, 134, 71, 66, 135, 58, 59, 60, 136, 137, 138, 139, 140, 141, 68, 142, 143, 144, 145, 146, 147, 148, 149, 70, 150, 151, 152, 153, 154, 155, 156, 157, 158, 159, 160, 161, 162, 163, 164, 165, 166, 167, 168, 169, 170, 171, 172, 173, 174, 175, 176, 177, 178, 188, 189, 190, 191, 192, 193, 194, 195, 200, 201, 202, 203, 204, 205, 206, 207, 196, 197, 198, 199] (by decide +kernel) (by decide +kernel)
set_option maxRecDepth 20000 in
theorem gX7_set_X2_changeSetting : GoodIn wsX7_set (wsV RX7 228 RX2 yX2_changeSetting wsX2_changeSetting) := goodIn_app (goodIn_of _ (by decide +kernel)) ggX7_set_X2_changeSetting
theorem dX7_set_0 : decode cX7_set 0 = .ok (.iload_n 1, 1) := by decide +kernel
theorem dX7_set_1 : decode cX7_set 1 = .ok (.iconst 0, 1) := by decide +kernel
theorem dX7_set_2 : decode cX7_set 2 = .ok (.iconst 3, 1) := by decide +kernel
theorem dX7_set_3 : decode cX7_set 3 = .ok (.invokestatic 67, 3) := by decide +kernel
theorem dX7_set_6 : decode cX7_set 6 = .ok (.iload_n 2, 1) := by decide +kernel
theorem dX7_set_7 : decode cX7_set 7 = .ok (.iload_n 1, 1) := by decide +kernel
theorem dX7_set_8 : decode cX7_set 8 = .ok (.invokestatic 222, 3) := by decide +kernel
theorem dX7_set_11 : decode cX7_set 11 = .ok (.iload_n 1, 1) := by decide +kernel
theorem dX7_set_12 : decode cX7_set 12 = .ok (.invokestatic 225, 3) := by decide +kernel
theorem dX7_set_15 : decode cX7_set 15 = .ok (.invokestatic 67, 3) := by decide +kernel
theorem dX7_set_18 : decode cX7_set 18 = .ok (.aload_n 0, 1) := by decide +kernel
theorem dX7_set_19 : decode cX7_set 19 = .ok (.invokevirtual 76, 3) := by decide +kernel
theorem dX7_set_22 : decode cX7_set 22 = .ok (.aload_n 0, 1) := by decide +kernel
theorem dX7_set_23 : decode cX7_set 23 = .ok (.getfield 48, 3) := by decide +kernel
theorem dX7_set_26 : decode cX7_set 26 = .ok (.iload_n 1, 1) := by decide +kernel
theorem dX7_set_27 : decode cX7_set 27 = .ok (.invokevirtual 114, 3) := by decide +kernel
theorem dX7_set_30 : decode cX7_set 30 = .ok (.istore_n 3, 1) := by decide +kernel
theorem dX7_set_31 : decode cX7_set 31 = .ok (.aload_n 0, 1) := by decide +kernel
theorem dX7_set_32 : decode cX7_set 32 = .ok (.getfield 48, 3) := by decide +kernel
theorem dX7_set_35 : decode cX7_set 35 = .ok (.iload_n 1, 1) := by decide +kernel
theorem dX7_set_36 : decode cX7_set 36 = .ok (.iload_n 2, 1) := by decide +kernel
theorem dX7_set_37 : decode cX7_set 37 = .ok (.invokevirtual 228, 3) := by decide +kernel
theorem dX7_set_40 : decode cX7_set 40 = .ok (.iload_n 3, 1) := by decide +kernel
theorem dX7_set_41 : decode cX7_set 41 = .ok (.ireturn, 1) := by decide +kernel
set_option maxRecDepth 20000 in
theorem ggX7_sort_X7_checkIndex : GoodIn wsX7_sort wsX7_checkIndex := goodIn_ca (goodIn_r _ [7, 8, 9] (by decide +kernel) (by decide +kernel)) (goodIn_sub (fun _ h => List.mem_cons_of_mem _ (List.mem_append_right _ h)) (by decide +kernel))
set_option maxRecDepth 20000 in
theorem gX7_sort_X7_checkIndex : GoodIn wsX7_sort (va_wsS RX7 131 yX7_checkIndex wsX7_checkIndex) := goodIn_app (goodIn_of _ (by decide +kernel)) ggX7_sort_X7_checkIndex
set_option maxRecDepth 20000 in
theorem ggX7_sort_X7_remember : GoodIn wsX7_sort wsX7_remember := goodIn_r _ [13, 14, 15, 1, 16, 17, 18, 6, 19, 20, 21, 22, 23, 24, 25, 26, 27, 28, 29, 30, 31, 32, 33, 34, 35, 36, 37, 38, 39, 40, 41, 42, 43, 44, 45, 46, 47, 48, 49, 50, 51, 52, 53, 54, 55, 56, 57, 58, 59, 60, 61, 62, 63, 64, 65, 66, 67, 68, 69, 70, 71, 72, 73, 74, 75, 76, 77, 120, 121, 122, 123, 124, 125, 126, 127, 128, 129, 130, 131, 132, 133, 134, 135, 136, 145, 146, 147, 148, 137, 138, 139, 140, 141, 142, 143, 144, 149, 150, 151, 152] (by decide +kernel) (by decide +kernel)
set_option maxRecDepth 20000 in
theorem gX7_sort_X7_remember : GoodIn wsX7_sort (wsV RX7 76 RX7 yX7_remember wsX7_remember) := goodIn_app (goodIn_of _ (by decide +kernel)) ggX7_sort_X7_remember
set_option maxRecDepth 20000 in
theorem ggX7_sort_X3_misplacedIn : GoodIn wsX7_sort wsX3_misplacedIn := goodIn_r _ [81, 82, 83, 84, 55, 85, 59, 62, 86, 87, 88, 89, 63, 90, 91, 92, 93, 57, 94, 95, 96, 97, 98, 99, 100, 101, 36, 102, 103, 104, 105, 106, 38, 137, 138, 139, 140, 141, 142, 143, 144, 145, 146, 147, 148] (by decide +kernel) (by decide +kernel)
set_option maxRecDepth 20000 in
theorem gX7_sort_X3_misplacedIn : GoodIn wsX7_sort (wsV RX7 231 RX3 yX3_misplacedIn wsX3_misplacedIn) := goodIn_app (goodIn_of _ (by decide +kernel)) ggX7_sort_X3_misplacedIn
set_option maxRecDepth 20000 in
theorem ggX7_sort_X3_putInOrder : GoodIn wsX7_sort wsX3_putInOrder := goodIn_r _ [110, 61, 86, 87, 88, 55, 89, 63, 82, 83, 84, 85, 59, 62, 111, 112, 113, 114, 98, 90, 91, 92, 93, 57, 99, 100, 101, 36, 102, 103, 104, 105, 106, 38, 115, 116, 117, 118, 119, 49, 50, 51, 137, 138, 139, 140, 141, 142, 143, 144, 145, 146, 147, 148] (by decide +kernel) (by decide +kernel)
set_option maxRecDepth 20000 in
theorem gX7_sort_X3_putInOrder : GoodIn wsX7_sort (wsV RX7 234 RX3 yX3_putInOrder wsX3_putInOrder) := goodIn_app (goodIn_of _ (by decide +kernel)) ggX7_sort_X3_putInOrder
theorem dX7_sort_0 : decode cX7_sort 0 = .ok (.iload_n 1, 1) := by decide +kernel
theorem dX7_sort_1 : decode cX7_sort 1 = .ok (.aload_n 0, 1) := by decide +kernel
theorem dX7_sort_2 : decode cX7_sort 2 = .ok (.getfield 48, 3) := by decide +kernel
theorem dX7_sort_5 : decode cX7_sort 5 = .ok (.getfield 96, 3) := by decide +kernel
theorem dX7_sort_8 : decode cX7_sort 8 = .ok (.getfield 108, 3) := by decide +kernel
theorem dX7_sort_11 : decode cX7_sort 11 = .ok (.invokestatic 131, 3) := by decide +kernel
theorem dX7_sort_14 : decode cX7_sort 14 = .ok (.aload_n 0, 1) := by decide +kernel
theorem dX7_sort_15 : decode cX7_sort 15 = .ok (.invokevirtual 76, 3) := by decide +kernel
theorem dX7_sort_18 : decode cX7_sort 18 = .ok (.aload_n 0, 1) := by decide +kernel
theorem dX7_sort_19 : decode cX7_sort 19 = .ok (.getfield 48, 3) := by decide +kernel
theorem dX7_sort_22 : decode cX7_sort 22 = .ok (.getfield 96, 3) := by decide +kernel
theorem dX7_sort_25 : decode cX7_sort 25 = .ok (.iload_n 1, 1) := by decide +kernel
theorem dX7_sort_26 : decode cX7_sort 26 = .ok (.invokevirtual 231, 3) := by decide +kernel
theorem dX7_sort_29 : decode cX7_sort 29 = .ok (.istore_n 2, 1) := by decide +kernel
theorem dX7_sort_30 : decode cX7_sort 30 = .ok (.aload_n 0, 1) := by decide +kernel
theorem dX7_sort_31 : decode cX7_sort 31 = .ok (.getfield 48, 3) := by decide +kernel
theorem dX7_sort_34 : decode cX7_sort 34 = .ok (.getfield 96, 3) := by decide +kernel
theorem dX7_sort_37 : decode cX7_sort 37 = .ok (.iload_n 1, 1) := by decide +kernel
theorem dX7_sort_38 : decode cX7_sort 38 = .ok (.invokevirtual 234, 3) := by decide +kernel
theorem dX7_sort_41 : decode cX7_sort 41 = .ok (.iload_n 2, 1) := by decide +kernel
theorem dX7_sort_42 : decode cX7_sort 42 = .ok (.ireturn, 1) := by decide +kernel
set_option maxRecDepth 20000 in
theorem ggX7_crack_X7_checkRange : GoodIn wsX7_crack wsX7_checkRange := goodIn_ca (goodIn_r _ [10, 11, 12] (by decide +kernel) (by decide +kernel)) (goodIn_sub (fun _ h => List.mem_cons_of_mem _ (List.mem_append_right _ h)) (by decide +kernel))
set_option maxRecDepth 20000 in
theorem gX7_crack_X7_checkRange : GoodIn wsX7_crack (va_wsS RX7 67 yX7_checkRange wsX7_checkRange) := goodIn_app (goodIn_of _ (by decide +kernel)) ggX7_crack_X7_checkRange
set_option maxRecDepth 20000 in
theorem ggX7_crack_X7_remember : GoodIn wsX7_crack wsX7_remember := goodIn_r _ [16, 17, 18, 3, 19, 20, 21, 9, 22, 23, 24, 25, 26, 27, 28, 29, 30, 31, 32, 33, 34, 35, 36, 37, 38, 39, 40, 41, 42, 43, 44, 45, 46, 47, 48, 49, 50, 51, 52, 53, 54, 55, 56, 57, 58, 59, 60, 61, 62, 63, 64, 65, 66, 67, 68, 69, 70, 71, 72, 73, 74, 75, 76, 77, 78, 79, 80, 141, 142, 143, 144, 145, 146, 147, 148, 149, 150, 151, 152, 153, 154, 155, 156, 157, 166, 167, 168, 169, 158, 159, 160, 161, 162, 163, 164, 165, 170, 171, 172, 173] (by decide +kernel) (by decide +kernel)
set_option maxRecDepth 20000 in
theorem gX7_crack_X7_remember : GoodIn wsX7_crack (wsV RX7 76 RX7 yX7_remember wsX7_remember) := goodIn_app (goodIn_of _ (by decide +kernel)) ggX7_crack_X7_remember
set_option maxRecDepth 20000 in
theorem ggX7_crack_X3_divideAt : GoodIn wsX7_crack wsX3_divideAt := goodIn_r _ [84, 66, 63, 61, 62, 85, 86, 87, 58, 88, 89, 90, 91, 92, 93, 94, 95, 96, 97, 98, 99, 100, 101, 102, 103, 104, 65, 105, 106, 107, 108, 64, 109, 9, 110, 111, 112, 113, 114, 115, 116, 117, 118, 119, 120, 121, 122, 123, 60, 124, 125, 126, 39, 127, 41, 128, 129, 130, 131, 132, 52, 53, 54, 133, 134, 135, 136, 137, 48, 49, 50, 138, 139, 140, 158, 159, 160, 161, 162, 163, 164, 165, 166, 167, 168, 169] (by decide +kernel) (by decide +kernel)
set_option maxRecDepth 20000 in
theorem gX7_crack_X3_divideAt : GoodIn wsX7_crack (wsV RX7 237 RX3 yX3_divideAt wsX3_divideAt) := goodIn_app (goodIn_of _ (by decide +kernel)) ggX7_crack_X3_divideAt
theorem dX7_crack_0 : decode cX7_crack 0 = .ok (.iload_n 1, 1) := by decide +kernel
theorem dX7_crack_1 : decode cX7_crack 1 = .ok (.iconst 0, 1) := by decide +kernel
theorem dX7_crack_2 : decode cX7_crack 2 = .ok (.sipush 10000, 3) := by decide +kernel
theorem dX7_crack_5 : decode cX7_crack 5 = .ok (.invokestatic 67, 3) := by decide +kernel
theorem dX7_crack_8 : decode cX7_crack 8 = .ok (.aload_n 0, 1) := by decide +kernel
theorem dX7_crack_9 : decode cX7_crack 9 = .ok (.getfield 48, 3) := by decide +kernel
theorem dX7_crack_12 : decode cX7_crack 12 = .ok (.getfield 96, 3) := by decide +kernel
theorem dX7_crack_15 : decode cX7_crack 15 = .ok (.getfield 108, 3) := by decide +kernel
theorem dX7_crack_18 : decode cX7_crack 18 = .ok (.bipush 60, 2) := by decide +kernel
theorem dX7_crack_20 : decode cX7_crack 20 = .ok (.if_icmp .lt 11, 3) := by decide +kernel
theorem dX7_crack_23 : decode cX7_crack 23 = .ok (.new 61, 3) := by decide +kernel
theorem dX7_crack_26 : decode cX7_crack 26 = .ok (.dup, 1) := by decide +kernel
theorem dX7_crack_27 : decode cX7_crack 27 = .ok (.invokespecial 63, 3) := by decide +kernel
theorem dX7_crack_30 : decode cX7_crack 30 = .ok (.athrow, 1) := by decide +kernel
theorem dX7_crack_31 : decode cX7_crack 31 = .ok (.aload_n 0, 1) := by decide +kernel
theorem dX7_crack_32 : decode cX7_crack 32 = .ok (.invokevirtual 76, 3) := by decide +kernel
theorem dX7_crack_35 : decode cX7_crack 35 = .ok (.aload_n 0, 1) := by decide +kernel
theorem dX7_crack_36 : decode cX7_crack 36 = .ok (.getfield 48, 3) := by decide +kernel
theorem dX7_crack_39 : decode cX7_crack 39 = .ok (.getfield 96, 3) := by decide +kernel
theorem dX7_crack_42 : decode cX7_crack 42 = .ok (.iload_n 1, 1) := by decide +kernel
theorem dX7_crack_43 : decode cX7_crack 43 = .ok (.invokevirtual 237, 3) := by decide +kernel
theorem dX7_crack_46 : decode cX7_crack 46 = .ok (.istore_n 2, 1) := by decide +kernel
theorem dX7_crack_47 : decode cX7_crack 47 = .ok (.aload_n 0, 1) := by decide +kernel
theorem dX7_crack_48 : decode cX7_crack 48 = .ok (.getfield 48, 3) := by decide +kernel
theorem dX7_crack_51 : decode cX7_crack 51 = .ok (.dup, 1) := by decide +kernel
theorem dX7_crack_52 : decode cX7_crack 52 = .ok (.getfield 118, 3) := by decide +kernel
theorem dX7_crack_55 : decode cX7_crack 55 = .ok (.iload_n 2, 1) := by decide +kernel
theorem dX7_crack_56 : decode cX7_crack 56 = .ok (.iadd, 1) := by decide +kernel
theorem dX7_crack_57 : decode cX7_crack 57 = .ok (.putfield 118, 3) := by decide +kernel
theorem dX7_crack_60 : decode cX7_crack 60 = .ok (.iload_n 2, 1) := by decide +kernel
theorem dX7_crack_61 : decode cX7_crack 61 = .ok (.ireturn, 1) := by decide +kernel
set_option maxRecDepth 20000 in
theorem ggX7_evenCrack_X3_largestUnsorted : GoodIn wsX7_evenCrack wsX3_largestUnsorted := goodIn_r _ [9, 10, 11, 12, 13, 8, 14, 15, 16, 17, 18, 19, 20, 21, 22, 23, 24, 25, 26, 27, 28, 29, 80, 81, 82, 83, 84, 85, 86, 87] (by decide +kernel) (by decide +kernel)
set_option maxRecDepth 20000 in
theorem gX7_evenCrack_X3_largestUnsorted : GoodIn wsX7_evenCrack (wsV RX7 240 RX3 yX3_largestUnsorted wsX3_largestUnsorted) := goodIn_app (goodIn_of _ (by decide +kernel)) ggX7_evenCrack_X3_largestUnsorted
set_option maxRecDepth 20000 in
theorem ggX7_evenCrack_X3_evenKeyOf : GoodIn wsX7_evenCrack wsX3_evenKeyOf := goodIn_r _ [33, 24, 25, 26, 8, 27, 28, 29, 16, 17, 18, 19, 10, 34, 35, 36, 37, 38, 39, 40, 41, 42, 43, 44, 45, 46, 47, 48, 49, 50, 51, 52, 53, 54, 55, 56, 57, 58, 59, 60, 61, 62, 20, 21, 22, 23, 80, 81, 82, 83, 84, 85, 86, 87, 88, 89, 90, 91] (by decide +kernel) (by decide +kernel)
set_option maxRecDepth 20000 in
theorem gX7_evenCrack_X3_evenKeyOf : GoodIn wsX7_evenCrack (wsV RX7 243 RX3 yX3_evenKeyOf wsX3_evenKeyOf) := goodIn_app (goodIn_of _ (by decide +kernel)) ggX7_evenCrack_X3_evenKeyOf
theorem dX7_evenCrack_0 : decode cX7_evenCrack 0 = .ok (.aload_n 0, 1) := by decide +kernel
theorem dX7_evenCrack_1 : decode cX7_evenCrack 1 = .ok (.getfield 48, 3) := by decide +kernel
theorem dX7_evenCrack_4 : decode cX7_evenCrack 4 = .ok (.getfield 96, 3) := by decide +kernel
theorem dX7_evenCrack_7 : decode cX7_evenCrack 7 = .ok (.invokevirtual 240, 3) := by decide +kernel
theorem dX7_evenCrack_10 : decode cX7_evenCrack 10 = .ok (.istore_n 1, 1) := by decide +kernel
theorem dX7_evenCrack_11 : decode cX7_evenCrack 11 = .ok (.iload_n 1, 1) := by decide +kernel
theorem dX7_evenCrack_12 : decode cX7_evenCrack 12 = .ok (.iconst (-1), 1) := by decide +kernel
theorem dX7_evenCrack_13 : decode cX7_evenCrack 13 = .ok (.if_icmp .ne 7, 3) := by decide +kernel
theorem dX7_evenCrack_16 : decode cX7_evenCrack 16 = .ok (.iconst (-1), 1) := by decide +kernel
theorem dX7_evenCrack_17 : decode cX7_evenCrack 17 = .ok (.goto 14, 3) := by decide +kernel
theorem dX7_evenCrack_20 : decode cX7_evenCrack 20 = .ok (.aload_n 0, 1) := by decide +kernel
theorem dX7_evenCrack_21 : decode cX7_evenCrack 21 = .ok (.getfield 48, 3) := by decide +kernel
theorem dX7_evenCrack_24 : decode cX7_evenCrack 24 = .ok (.getfield 96, 3) := by decide +kernel
theorem dX7_evenCrack_27 : decode cX7_evenCrack 27 = .ok (.iload_n 1, 1) := by decide +kernel
theorem dX7_evenCrack_28 : decode cX7_evenCrack 28 = .ok (.invokevirtual 243, 3) := by decide +kernel
theorem dX7_evenCrack_31 : decode cX7_evenCrack 31 = .ok (.istore_n 2, 1) := by decide +kernel
theorem dX7_evenCrack_32 : decode cX7_evenCrack 32 = .ok (.iload_n 2, 1) := by decide +kernel
theorem dX7_evenCrack_33 : decode cX7_evenCrack 33 = .ok (.iconst (-1), 1) := by decide +kernel
theorem dX7_evenCrack_34 : decode cX7_evenCrack 34 = .ok (.if_icmp .ne 11, 3) := by decide +kernel
theorem dX7_evenCrack_37 : decode cX7_evenCrack 37 = .ok (.new 191, 3) := by decide +kernel
theorem dX7_evenCrack_40 : decode cX7_evenCrack 40 = .ok (.dup, 1) := by decide +kernel
theorem dX7_evenCrack_41 : decode cX7_evenCrack 41 = .ok (.invokespecial 193, 3) := by decide +kernel
theorem dX7_evenCrack_44 : decode cX7_evenCrack 44 = .ok (.athrow, 1) := by decide +kernel
theorem dX7_evenCrack_45 : decode cX7_evenCrack 45 = .ok (.iload_n 2, 1) := by decide +kernel
theorem dX7_evenCrack_46 : decode cX7_evenCrack 46 = .ok (.ireturn, 1) := by decide +kernel
set_option maxRecDepth 20000 in
theorem ggX7_drop_X7_checkIndex : GoodIn wsX7_drop wsX7_checkIndex := goodIn_ca (goodIn_r _ [9, 10, 11] (by decide +kernel) (by decide +kernel)) (goodIn_sub (fun _ h => List.mem_cons_of_mem _ (List.mem_append_right _ h)) (by decide +kernel))
set_option maxRecDepth 20000 in
theorem gX7_drop_X7_checkIndex : GoodIn wsX7_drop (va_wsS RX7 131 yX7_checkIndex wsX7_checkIndex) := goodIn_app (goodIn_of _ (by decide +kernel)) ggX7_drop_X7_checkIndex
set_option maxRecDepth 20000 in
theorem ggX7_drop_X7_remember : GoodIn wsX7_drop wsX7_remember := goodIn_r _ [15, 16, 17, 3, 18, 19, 20, 8, 21, 22, 23, 24, 25, 26, 27, 28, 29, 30, 31, 32, 33, 34, 35, 36, 37, 38, 39, 40, 41, 42, 43, 44, 45, 46, 47, 48, 49, 50, 51, 52, 53, 54, 55, 56, 57, 58, 59, 60, 61, 62, 63, 64, 65, 66, 67, 68, 69, 70, 71, 72, 73, 74, 75, 76, 77, 78, 79, 104, 105, 106, 107, 108, 109, 110, 111, 112, 113, 114, 115, 116, 117, 118, 119, 120, 129, 130, 131, 132, 121, 122, 123, 124, 125, 126, 127, 128, 133, 134, 135, 136] (by decide +kernel) (by decide +kernel)
set_option maxRecDepth 20000 in
theorem gX7_drop_X7_remember : GoodIn wsX7_drop (wsV RX7 76 RX7 yX7_remember wsX7_remember) := goodIn_app (goodIn_of _ (by decide +kernel)) ggX7_drop_X7_remember
set_option maxRecDepth 20000 in
theorem ggX7_drop_X3_joinNext : GoodIn wsX7_drop wsX3_joinNext := goodIn_r _ [83, 62, 63, 65, 84, 85, 86, 57, 87, 88, 89, 90, 91, 92, 47, 48, 49, 93, 94, 95, 60, 61, 121, 122, 123, 124, 125, 126, 127, 128] (by decide +kernel) (by decide +kernel)
set_option maxRecDepth 20000 in
theorem gX7_drop_X3_joinNext : GoodIn wsX7_drop (wsV RX7 246 RX3 yX3_joinNext wsX3_joinNext) := goodIn_app (goodIn_of _ (by decide +kernel)) ggX7_drop_X3_joinNext
set_option maxRecDepth 20000 in
theorem ggX7_drop_X3_sizeOf : GoodIn wsX7_drop wsX3_sizeOf := goodIn_r _ [99, 100, 101, 102, 57, 103, 61, 64, 84, 85, 86, 87, 65, 121, 122, 123, 124, 125, 126, 127, 128] (by decide +kernel) (by decide +kernel)
set_option maxRecDepth 20000 in
theorem gX7_drop_X3_sizeOf : GoodIn wsX7_drop (wsV RX7 156 RX3 yX3_sizeOf wsX3_sizeOf) := goodIn_app (goodIn_of _ (by decide +kernel)) ggX7_drop_X3_sizeOf
theorem dX7_drop_0 : decode cX7_drop 0 = .ok (.iload_n 1, 1) := by decide +kernel
theorem dX7_drop_1 : decode cX7_drop 1 = .ok (.aload_n 0, 1) := by decide +kernel
theorem dX7_drop_2 : decode cX7_drop 2 = .ok (.getfield 48, 3) := by decide +kernel
theorem dX7_drop_5 : decode cX7_drop 5 = .ok (.getfield 96, 3) := by decide +kernel
theorem dX7_drop_8 : decode cX7_drop 8 = .ok (.getfield 108, 3) := by decide +kernel
theorem dX7_drop_11 : decode cX7_drop 11 = .ok (.invokestatic 131, 3) := by decide +kernel
theorem dX7_drop_14 : decode cX7_drop 14 = .ok (.iload_n 1, 1) := by decide +kernel
theorem dX7_drop_15 : decode cX7_drop 15 = .ok (.ifCond .ne 11, 3) := by decide +kernel
theorem dX7_drop_18 : decode cX7_drop 18 = .ok (.new 61, 3) := by decide +kernel
theorem dX7_drop_21 : decode cX7_drop 21 = .ok (.dup, 1) := by decide +kernel
theorem dX7_drop_22 : decode cX7_drop 22 = .ok (.invokespecial 63, 3) := by decide +kernel
theorem dX7_drop_25 : decode cX7_drop 25 = .ok (.athrow, 1) := by decide +kernel
theorem dX7_drop_26 : decode cX7_drop 26 = .ok (.aload_n 0, 1) := by decide +kernel
theorem dX7_drop_27 : decode cX7_drop 27 = .ok (.invokevirtual 76, 3) := by decide +kernel
theorem dX7_drop_30 : decode cX7_drop 30 = .ok (.aload_n 0, 1) := by decide +kernel
theorem dX7_drop_31 : decode cX7_drop 31 = .ok (.getfield 48, 3) := by decide +kernel
theorem dX7_drop_34 : decode cX7_drop 34 = .ok (.getfield 96, 3) := by decide +kernel
theorem dX7_drop_37 : decode cX7_drop 37 = .ok (.iload_n 1, 1) := by decide +kernel
theorem dX7_drop_38 : decode cX7_drop 38 = .ok (.iconst 1, 1) := by decide +kernel
theorem dX7_drop_39 : decode cX7_drop 39 = .ok (.isub, 1) := by decide +kernel
theorem dX7_drop_40 : decode cX7_drop 40 = .ok (.invokevirtual 246, 3) := by decide +kernel
theorem dX7_drop_43 : decode cX7_drop 43 = .ok (.aload_n 0, 1) := by decide +kernel
theorem dX7_drop_44 : decode cX7_drop 44 = .ok (.getfield 48, 3) := by decide +kernel
theorem dX7_drop_47 : decode cX7_drop 47 = .ok (.getfield 96, 3) := by decide +kernel
theorem dX7_drop_50 : decode cX7_drop 50 = .ok (.iload_n 1, 1) := by decide +kernel
theorem dX7_drop_51 : decode cX7_drop 51 = .ok (.iconst 1, 1) := by decide +kernel
theorem dX7_drop_52 : decode cX7_drop 52 = .ok (.isub, 1) := by decide +kernel
theorem dX7_drop_53 : decode cX7_drop 53 = .ok (.invokevirtual 156, 3) := by decide +kernel
theorem dX7_drop_56 : decode cX7_drop 56 = .ok (.ireturn, 1) := by decide +kernel
set_option maxRecDepth 20000 in
theorem ggX7_hottest_X3_hottestPiece : GoodIn wsX7_hottest wsX3_hottestPiece := goodIn_r _ [7, 8, 9, 10, 11, 6, 12, 13, 14, 15, 16, 17, 35, 36, 37, 38, 39, 40, 41, 42] (by decide +kernel) (by decide +kernel)
set_option maxRecDepth 20000 in
theorem gX7_hottest_X3_hottestPiece : GoodIn wsX7_hottest (wsV RX7 249 RX3 yX3_hottestPiece wsX3_hottestPiece) := goodIn_app (goodIn_of _ (by decide +kernel)) ggX7_hottest_X3_hottestPiece
theorem dX7_hottest_0 : decode cX7_hottest 0 = .ok (.aload_n 0, 1) := by decide +kernel
theorem dX7_hottest_1 : decode cX7_hottest 1 = .ok (.getfield 48, 3) := by decide +kernel
theorem dX7_hottest_4 : decode cX7_hottest 4 = .ok (.getfield 96, 3) := by decide +kernel
theorem dX7_hottest_7 : decode cX7_hottest 7 = .ok (.invokevirtual 249, 3) := by decide +kernel
theorem dX7_hottest_10 : decode cX7_hottest 10 = .ok (.ireturn, 1) := by decide +kernel
set_option maxRecDepth 20000 in
theorem ggX7_coldestPair_X3_coldestOfPairs : GoodIn wsX7_coldestPair wsX3_coldestOfPairs := goodIn_r _ [9, 10, 11, 12, 13, 8, 14, 15, 16, 17, 18, 19, 20, 21, 22, 23, 41, 42, 43, 44, 45, 46, 47, 48] (by decide +kernel) (by decide +kernel)
set_option maxRecDepth 20000 in
theorem gX7_coldestPair_X3_coldestOfPairs : GoodIn wsX7_coldestPair (wsV RX7 252 RX3 yX3_coldestOfPairs wsX3_coldestOfPairs) := goodIn_app (goodIn_of _ (by decide +kernel)) ggX7_coldestPair_X3_coldestOfPairs
theorem dX7_coldestPair_0 : decode cX7_coldestPair 0 = .ok (.aload_n 0, 1) := by decide +kernel
theorem dX7_coldestPair_1 : decode cX7_coldestPair 1 = .ok (.getfield 48, 3) := by decide +kernel
theorem dX7_coldestPair_4 : decode cX7_coldestPair 4 = .ok (.getfield 96, 3) := by decide +kernel
theorem dX7_coldestPair_7 : decode cX7_coldestPair 7 = .ok (.invokevirtual 252, 3) := by decide +kernel
theorem dX7_coldestPair_10 : decode cX7_coldestPair 10 = .ok (.istore_n 1, 1) := by decide +kernel
theorem dX7_coldestPair_11 : decode cX7_coldestPair 11 = .ok (.iload_n 1, 1) := by decide +kernel
theorem dX7_coldestPair_12 : decode cX7_coldestPair 12 = .ok (.iconst (-1), 1) := by decide +kernel
theorem dX7_coldestPair_13 : decode cX7_coldestPair 13 = .ok (.if_icmp .ne 11, 3) := by decide +kernel
theorem dX7_coldestPair_16 : decode cX7_coldestPair 16 = .ok (.new 191, 3) := by decide +kernel
theorem dX7_coldestPair_19 : decode cX7_coldestPair 19 = .ok (.dup, 1) := by decide +kernel
theorem dX7_coldestPair_20 : decode cX7_coldestPair 20 = .ok (.invokespecial 193, 3) := by decide +kernel
theorem dX7_coldestPair_23 : decode cX7_coldestPair 23 = .ok (.athrow, 1) := by decide +kernel
theorem dX7_coldestPair_24 : decode cX7_coldestPair 24 = .ok (.iload_n 1, 1) := by decide +kernel
theorem dX7_coldestPair_25 : decode cX7_coldestPair 25 = .ok (.ireturn, 1) := by decide +kernel
set_option maxRecDepth 20000 in
theorem ggX7_writePieces_X1_put : GoodIn wsX7_writePieces wsX1_put := goodIn_r _ [10, 11, 12, 66, 67] (by decide +kernel) (by decide +kernel)
set_option maxRecDepth 20000 in
theorem gX7_writePieces_X1_put : GoodIn wsX7_writePieces (wsV RX7 255 RX1 yX1_put wsX1_put) := goodIn_app (goodIn_of _ (by decide +kernel)) ggX7_writePieces_X1_put
set_option maxRecDepth 20000 in
theorem ggX7_writePieces_X3_boundOf : GoodIn wsX7_writePieces wsX3_boundOf := goodIn_r _ [17, 18, 19, 20, 21, 16, 22, 23, 68, 69, 70, 71, 72, 73, 74, 75] (by decide +kernel) (by decide +kernel)
set_option maxRecDepth 20000 in
theorem gX7_writePieces_X3_boundOf : GoodIn wsX7_writePieces (wsV RX7 150 RX3 yX3_boundOf wsX3_boundOf) := goodIn_app (goodIn_of _ (by decide +kernel)) ggX7_writePieces_X3_boundOf
set_option maxRecDepth 20000 in
theorem ggX7_writePieces_X1_putNumber : GoodIn wsX7_writePieces wsX1_putNumber := goodIn_r _ [27, 28, 7, 8, 9, 10, 11, 12, 66, 67] (by decide +kernel) (by decide +kernel)
set_option maxRecDepth 20000 in
theorem gX7_writePieces_X1_putNumber : GoodIn wsX7_writePieces (wsV RX7 258 RX1 yX1_putNumber wsX1_putNumber) := goodIn_app (goodIn_of _ (by decide +kernel)) ggX7_writePieces_X1_putNumber
set_option maxRecDepth 20000 in
theorem ggX7_writePieces_X3_sizeOf : GoodIn wsX7_writePieces wsX3_sizeOf := goodIn_r _ [32, 33, 34, 35, 16, 36, 37, 38, 19, 20, 21, 22, 23, 68, 69, 70, 71, 72, 73, 74, 75] (by decide +kernel) (by decide +kernel)
set_option maxRecDepth 20000 in
theorem gX7_writePieces_X3_sizeOf : GoodIn wsX7_writePieces (wsV RX7 156 RX3 yX3_sizeOf wsX3_sizeOf) := goodIn_app (goodIn_of _ (by decide +kernel)) ggX7_writePieces_X3_sizeOf
set_option maxRecDepth 20000 in
theorem ggX7_writePieces_X3_isSorted : GoodIn wsX7_writePieces wsX3_isSorted := goodIn_r _ [42, 43, 19, 20, 21, 16, 22, 23, 68, 69, 70, 71, 72, 73, 74, 75] (by decide +kernel) (by decide +kernel)
set_option maxRecDepth 20000 in
theorem gX7_writePieces_X3_isSorted : GoodIn wsX7_writePieces (wsV RX7 162 RX3 yX3_isSorted wsX3_isSorted) := goodIn_app (goodIn_of _ (by decide +kernel)) ggX7_writePieces_X3_isSorted
set_option maxRecDepth 20000 in
theorem ggX7_writePieces_X3_heatOf : GoodIn wsX7_writePieces wsX3_heatOf := goodIn_r _ [47, 48, 19, 20, 21, 16, 22, 23, 68, 69, 70, 71, 72, 73, 74, 75] (by decide +kernel) (by decide +kernel)
set_option maxRecDepth 20000 in
theorem gX7_writePieces_X3_heatOf : GoodIn wsX7_writePieces (wsV RX7 159 RX3 yX3_heatOf wsX3_heatOf) := goodIn_app (goodIn_of _ (by decide +kernel)) ggX7_writePieces_X3_heatOf
theorem dX7_writePieces_0 : decode cX7_writePieces 0 = .ok (.aload_n 0, 1) := by decide +kernel
theorem dX7_writePieces_1 : decode cX7_writePieces 1 = .ok (.getfield 48, 3) := by decide +kernel
theorem dX7_writePieces_4 : decode cX7_writePieces 4 = .ok (.getfield 96, 3) := by decide +kernel
theorem dX7_writePieces_7 : decode cX7_writePieces 7 = .ok (.astore_n 1, 1) := by decide +kernel
theorem dX7_writePieces_8 : decode cX7_writePieces 8 = .ok (.aload_n 0, 1) := by decide +kernel
theorem dX7_writePieces_9 : decode cX7_writePieces 9 = .ok (.getfield 27, 3) := by decide +kernel
theorem dX7_writePieces_12 : decode cX7_writePieces 12 = .ok (.iconst 0, 1) := by decide +kernel
theorem dX7_writePieces_13 : decode cX7_writePieces 13 = .ok (.putfield 58, 3) := by decide +kernel
theorem dX7_writePieces_16 : decode cX7_writePieces 16 = .ok (.iconst 0, 1) := by decide +kernel
theorem dX7_writePieces_17 : decode cX7_writePieces 17 = .ok (.istore_n 2, 1) := by decide +kernel
theorem dX7_writePieces_18 : decode cX7_writePieces 18 = .ok (.iload_n 2, 1) := by decide +kernel
theorem dX7_writePieces_19 : decode cX7_writePieces 19 = .ok (.aload_n 1, 1) := by decide +kernel
theorem dX7_writePieces_20 : decode cX7_writePieces 20 = .ok (.getfield 108, 3) := by decide +kernel
theorem dX7_writePieces_23 : decode cX7_writePieces 23 = .ok (.if_icmp .ge 89, 3) := by decide +kernel
theorem dX7_writePieces_26 : decode cX7_writePieces 26 = .ok (.iload_n 2, 1) := by decide +kernel
theorem dX7_writePieces_27 : decode cX7_writePieces 27 = .ok (.ifCond .le 12, 3) := by decide +kernel
theorem dX7_writePieces_30 : decode cX7_writePieces 30 = .ok (.aload_n 0, 1) := by decide +kernel
theorem dX7_writePieces_31 : decode cX7_writePieces 31 = .ok (.getfield 27, 3) := by decide +kernel
theorem dX7_writePieces_34 : decode cX7_writePieces 34 = .ok (.bipush 32, 2) := by decide +kernel
theorem dX7_writePieces_36 : decode cX7_writePieces 36 = .ok (.invokevirtual 255, 3) := by decide +kernel
theorem dX7_writePieces_39 : decode cX7_writePieces 39 = .ok (.aload_n 0, 1) := by decide +kernel
theorem dX7_writePieces_40 : decode cX7_writePieces 40 = .ok (.getfield 27, 3) := by decide +kernel
theorem dX7_writePieces_43 : decode cX7_writePieces 43 = .ok (.aload_n 1, 1) := by decide +kernel
theorem dX7_writePieces_44 : decode cX7_writePieces 44 = .ok (.iload_n 2, 1) := by decide +kernel
theorem dX7_writePieces_45 : decode cX7_writePieces 45 = .ok (.invokevirtual 150, 3) := by decide +kernel
theorem dX7_writePieces_48 : decode cX7_writePieces 48 = .ok (.invokevirtual 258, 3) := by decide +kernel
theorem dX7_writePieces_51 : decode cX7_writePieces 51 = .ok (.aload_n 0, 1) := by decide +kernel
theorem dX7_writePieces_52 : decode cX7_writePieces 52 = .ok (.getfield 27, 3) := by decide +kernel
theorem dX7_writePieces_55 : decode cX7_writePieces 55 = .ok (.bipush 58, 2) := by decide +kernel
theorem dX7_writePieces_57 : decode cX7_writePieces 57 = .ok (.invokevirtual 255, 3) := by decide +kernel
theorem dX7_writePieces_60 : decode cX7_writePieces 60 = .ok (.aload_n 0, 1) := by decide +kernel
theorem dX7_writePieces_61 : decode cX7_writePieces 61 = .ok (.getfield 27, 3) := by decide +kernel
theorem dX7_writePieces_64 : decode cX7_writePieces 64 = .ok (.aload_n 1, 1) := by decide +kernel
theorem dX7_writePieces_65 : decode cX7_writePieces 65 = .ok (.iload_n 2, 1) := by decide +kernel
theorem dX7_writePieces_66 : decode cX7_writePieces 66 = .ok (.invokevirtual 156, 3) := by decide +kernel
theorem dX7_writePieces_69 : decode cX7_writePieces 69 = .ok (.invokevirtual 258, 3) := by decide +kernel
theorem dX7_writePieces_72 : decode cX7_writePieces 72 = .ok (.aload_n 0, 1) := by decide +kernel
theorem dX7_writePieces_73 : decode cX7_writePieces 73 = .ok (.getfield 27, 3) := by decide +kernel
theorem dX7_writePieces_76 : decode cX7_writePieces 76 = .ok (.aload_n 1, 1) := by decide +kernel
theorem dX7_writePieces_77 : decode cX7_writePieces 77 = .ok (.iload_n 2, 1) := by decide +kernel
theorem dX7_writePieces_78 : decode cX7_writePieces 78 = .ok (.invokevirtual 162, 3) := by decide +kernel
theorem dX7_writePieces_81 : decode cX7_writePieces 81 = .ok (.ifCond .eq 8, 3) := by decide +kernel
theorem dX7_writePieces_84 : decode cX7_writePieces 84 = .ok (.bipush 115, 2) := by decide +kernel
theorem dX7_writePieces_86 : decode cX7_writePieces 86 = .ok (.goto 5, 3) := by decide +kernel
theorem dX7_writePieces_89 : decode cX7_writePieces 89 = .ok (.bipush 117, 2) := by decide +kernel
theorem dX7_writePieces_91 : decode cX7_writePieces 91 = .ok (.invokevirtual 255, 3) := by decide +kernel
theorem dX7_writePieces_94 : decode cX7_writePieces 94 = .ok (.aload_n 0, 1) := by decide +kernel
theorem dX7_writePieces_95 : decode cX7_writePieces 95 = .ok (.getfield 27, 3) := by decide +kernel
theorem dX7_writePieces_98 : decode cX7_writePieces 98 = .ok (.aload_n 1, 1) := by decide +kernel
theorem dX7_writePieces_99 : decode cX7_writePieces 99 = .ok (.iload_n 2, 1) := by decide +kernel
theorem dX7_writePieces_100 : decode cX7_writePieces 100 = .ok (.invokevirtual 159, 3) := by decide +kernel
theorem dX7_writePieces_103 : decode cX7_writePieces 103 = .ok (.invokevirtual 258, 3) := by decide +kernel
theorem dX7_writePieces_106 : decode cX7_writePieces 106 = .ok (.iinc 2 1, 3) := by decide +kernel
theorem dX7_writePieces_109 : decode cX7_writePieces 109 = .ok (.goto (-91), 3) := by decide +kernel
theorem dX7_writePieces_112 : decode cX7_writePieces 112 = .ok (.aload_n 0, 1) := by decide +kernel
theorem dX7_writePieces_113 : decode cX7_writePieces 113 = .ok (.getfield 27, 3) := by decide +kernel
theorem dX7_writePieces_116 : decode cX7_writePieces 116 = .ok (.getfield 58, 3) := by decide +kernel
theorem dX7_writePieces_119 : decode cX7_writePieces 119 = .ok (.ireturn, 1) := by decide +kernel
set_option maxRecDepth 20000 in
theorem ggX7_writtenByte_X7_checkIndex : GoodIn wsX7_writtenByte wsX7_checkIndex := goodIn_ca (goodIn_r _ [6, 7, 8] (by decide +kernel) (by decide +kernel)) (goodIn_sub (fun _ h => List.mem_cons_of_mem _ (List.mem_append_right _ h)) (by decide +kernel))
set_option maxRecDepth 20000 in
theorem gX7_writtenByte_X7_checkIndex : GoodIn wsX7_writtenByte (va_wsS RX7 131 yX7_checkIndex wsX7_checkIndex) := goodIn_app (goodIn_of _ (by decide +kernel)) ggX7_writtenByte_X7_checkIndex
set_option maxRecDepth 20000 in
theorem ggX7_writtenByte_X1_byteAt : GoodIn wsX7_writtenByte wsX1_byteAt := goodIn_r _ [13, 14, 15, 25, 26] (by decide +kernel) (by decide +kernel)
set_option maxRecDepth 20000 in
theorem gX7_writtenByte_X1_byteAt : GoodIn wsX7_writtenByte (wsV RX7 261 RX1 yX1_byteAt wsX1_byteAt) := goodIn_app (goodIn_of _ (by decide +kernel)) ggX7_writtenByte_X1_byteAt
theorem dX7_writtenByte_0 : decode cX7_writtenByte 0 = .ok (.iload_n 1, 1) := by decide +kernel
theorem dX7_writtenByte_1 : decode cX7_writtenByte 1 = .ok (.aload_n 0, 1) := by decide +kernel
theorem dX7_writtenByte_2 : decode cX7_writtenByte 2 = .ok (.getfield 27, 3) := by decide +kernel
theorem dX7_writtenByte_5 : decode cX7_writtenByte 5 = .ok (.getfield 58, 3) := by decide +kernel
theorem dX7_writtenByte_8 : decode cX7_writtenByte 8 = .ok (.invokestatic 131, 3) := by decide +kernel
theorem dX7_writtenByte_11 : decode cX7_writtenByte 11 = .ok (.aload_n 0, 1) := by decide +kernel
theorem dX7_writtenByte_12 : decode cX7_writtenByte 12 = .ok (.getfield 27, 3) := by decide +kernel
theorem dX7_writtenByte_15 : decode cX7_writtenByte 15 = .ok (.iload_n 1, 1) := by decide +kernel
theorem dX7_writtenByte_16 : decode cX7_writtenByte 16 = .ok (.invokevirtual 261, 3) := by decide +kernel
theorem dX7_writtenByte_19 : decode cX7_writtenByte 19 = .ok (.ireturn, 1) := by decide +kernel
theorem dX7_undo_0 : decode cX7_undo 0 = .ok (.aload_n 0, 1) := by decide +kernel
theorem dX7_undo_1 : decode cX7_undo 1 = .ok (.getfield 51, 3) := by decide +kernel
theorem dX7_undo_4 : decode cX7_undo 4 = .ok (.ifCond .le 12, 3) := by decide +kernel
theorem dX7_undo_7 : decode cX7_undo 7 = .ok (.aload_n 0, 1) := by decide +kernel
theorem dX7_undo_8 : decode cX7_undo 8 = .ok (.getfield 51, 3) := by decide +kernel
theorem dX7_undo_11 : decode cX7_undo 11 = .ok (.bipush 8, 2) := by decide +kernel
theorem dX7_undo_13 : decode cX7_undo 13 = .ok (.if_icmp .le 11, 3) := by decide +kernel
theorem dX7_undo_16 : decode cX7_undo 16 = .ok (.new 61, 3) := by decide +kernel
theorem dX7_undo_19 : decode cX7_undo 19 = .ok (.dup, 1) := by decide +kernel
theorem dX7_undo_20 : decode cX7_undo 20 = .ok (.invokespecial 63, 3) := by decide +kernel
theorem dX7_undo_23 : decode cX7_undo 23 = .ok (.athrow, 1) := by decide +kernel
theorem dX7_undo_24 : decode cX7_undo 24 = .ok (.aload_n 0, 1) := by decide +kernel
theorem dX7_undo_25 : decode cX7_undo 25 = .ok (.dup, 1) := by decide +kernel
theorem dX7_undo_26 : decode cX7_undo 26 = .ok (.getfield 51, 3) := by decide +kernel
theorem dX7_undo_29 : decode cX7_undo 29 = .ok (.iconst 1, 1) := by decide +kernel
theorem dX7_undo_30 : decode cX7_undo 30 = .ok (.isub, 1) := by decide +kernel
theorem dX7_undo_31 : decode cX7_undo 31 = .ok (.putfield 51, 3) := by decide +kernel
theorem dX7_undo_34 : decode cX7_undo 34 = .ok (.aload_n 0, 1) := by decide +kernel
theorem dX7_undo_35 : decode cX7_undo 35 = .ok (.getfield 44, 3) := by decide +kernel
theorem dX7_undo_38 : decode cX7_undo 38 = .ok (.aload_n 0, 1) := by decide +kernel
theorem dX7_undo_39 : decode cX7_undo 39 = .ok (.getfield 51, 3) := by decide +kernel
theorem dX7_undo_42 : decode cX7_undo 42 = .ok (.aaload, 1) := by decide +kernel
theorem dX7_undo_43 : decode cX7_undo 43 = .ok (.astore_n 1, 1) := by decide +kernel
theorem dX7_undo_44 : decode cX7_undo 44 = .ok (.aload_n 0, 1) := by decide +kernel
theorem dX7_undo_45 : decode cX7_undo 45 = .ok (.getfield 44, 3) := by decide +kernel
theorem dX7_undo_48 : decode cX7_undo 48 = .ok (.aload_n 0, 1) := by decide +kernel
theorem dX7_undo_49 : decode cX7_undo 49 = .ok (.getfield 51, 3) := by decide +kernel
theorem dX7_undo_52 : decode cX7_undo 52 = .ok (.aload_n 0, 1) := by decide +kernel
theorem dX7_undo_53 : decode cX7_undo 53 = .ok (.getfield 48, 3) := by decide +kernel
theorem dX7_undo_56 : decode cX7_undo 56 = .ok (.aastore, 1) := by decide +kernel
theorem dX7_undo_57 : decode cX7_undo 57 = .ok (.aload_n 0, 1) := by decide +kernel
theorem dX7_undo_58 : decode cX7_undo 58 = .ok (.aload_n 1, 1) := by decide +kernel
theorem dX7_undo_59 : decode cX7_undo 59 = .ok (.putfield 48, 3) := by decide +kernel
theorem dX7_undo_62 : decode cX7_undo 62 = .ok (.aload_n 0, 1) := by decide +kernel
theorem dX7_undo_63 : decode cX7_undo 63 = .ok (.getfield 51, 3) := by decide +kernel
theorem dX7_undo_66 : decode cX7_undo 66 = .ok (.ireturn, 1) := by decide +kernel
set_option maxRecDepth 20000 in
theorem ggX7_remember_X7_forgetOldest : GoodIn wsX7_remember wsX7_forgetOldest := goodIn_r _ [8, 2, 1, 67, 68, 69, 70, 71, 72, 73, 74, 75] (by decide +kernel) (by decide +kernel)
set_option maxRecDepth 20000 in
theorem gX7_remember_X7_forgetOldest : GoodIn wsX7_remember (wsV RX7 264 RX7 yX7_forgetOldest wsX7_forgetOldest) := goodIn_app (goodIn_of _ (by decide +kernel)) ggX7_remember_X7_forgetOldest
set_option maxRecDepth 20000 in
theorem ggX7_remember_X2_become : GoodIn wsX7_remember wsX2_become := goodIn_r _ [13, 14, 15, 16, 17, 18, 19, 20, 21, 22, 23, 24, 25, 26, 27, 28, 29, 30, 31, 7, 32, 33, 34, 35, 36, 37, 38, 39, 40, 41, 42, 43, 44, 45, 46, 47, 48, 49, 50, 51, 52, 53, 54, 55, 56, 57, 58, 59, 60, 61, 62, 63, 64, 65, 66, 76, 77, 78, 79, 80, 81, 82, 83, 84, 85, 86, 87, 88, 89, 90, 91, 92, 93, 94, 95, 96, 97, 98, 99] (by decide +kernel) (by decide +kernel)
set_option maxRecDepth 20000 in
theorem gX7_remember_X2_become : GoodIn wsX7_remember (wsV RX7 79 RX2 yX2_become wsX2_become) := goodIn_app (goodIn_of _ (by decide +kernel)) ggX7_remember_X2_become
theorem dX7_remember_0 : decode cX7_remember 0 = .ok (.aload_n 0, 1) := by decide +kernel
theorem dX7_remember_1 : decode cX7_remember 1 = .ok (.getfield 51, 3) := by decide +kernel
theorem dX7_remember_4 : decode cX7_remember 4 = .ok (.bipush 8, 2) := by decide +kernel
theorem dX7_remember_6 : decode cX7_remember 6 = .ok (.if_icmp .lt 7, 3) := by decide +kernel
theorem dX7_remember_9 : decode cX7_remember 9 = .ok (.aload_n 0, 1) := by decide +kernel
theorem dX7_remember_10 : decode cX7_remember 10 = .ok (.invokevirtual 264, 3) := by decide +kernel
theorem dX7_remember_13 : decode cX7_remember 13 = .ok (.aload_n 0, 1) := by decide +kernel
theorem dX7_remember_14 : decode cX7_remember 14 = .ok (.getfield 44, 3) := by decide +kernel
theorem dX7_remember_17 : decode cX7_remember 17 = .ok (.aload_n 0, 1) := by decide +kernel
theorem dX7_remember_18 : decode cX7_remember 18 = .ok (.getfield 51, 3) := by decide +kernel
theorem dX7_remember_21 : decode cX7_remember 21 = .ok (.aaload, 1) := by decide +kernel
theorem dX7_remember_22 : decode cX7_remember 22 = .ok (.aload_n 0, 1) := by decide +kernel
theorem dX7_remember_23 : decode cX7_remember 23 = .ok (.getfield 48, 3) := by decide +kernel
theorem dX7_remember_26 : decode cX7_remember 26 = .ok (.invokevirtual 79, 3) := by decide +kernel
theorem dX7_remember_29 : decode cX7_remember 29 = .ok (.aload_n 0, 1) := by decide +kernel
theorem dX7_remember_30 : decode cX7_remember 30 = .ok (.dup, 1) := by decide +kernel
theorem dX7_remember_31 : decode cX7_remember 31 = .ok (.getfield 51, 3) := by decide +kernel
theorem dX7_remember_34 : decode cX7_remember 34 = .ok (.iconst 1, 1) := by decide +kernel
theorem dX7_remember_35 : decode cX7_remember 35 = .ok (.iadd, 1) := by decide +kernel
theorem dX7_remember_36 : decode cX7_remember 36 = .ok (.putfield 51, 3) := by decide +kernel
theorem dX7_remember_39 : decode cX7_remember 39 = .ok (.return_, 1) := by decide +kernel
theorem dX7_forgetOldest_0 : decode cX7_forgetOldest 0 = .ok (.aload_n 0, 1) := by decide +kernel
theorem dX7_forgetOldest_1 : decode cX7_forgetOldest 1 = .ok (.getfield 44, 3) := by decide +kernel
theorem dX7_forgetOldest_4 : decode cX7_forgetOldest 4 = .ok (.iconst 0, 1) := by decide +kernel
theorem dX7_forgetOldest_5 : decode cX7_forgetOldest 5 = .ok (.aaload, 1) := by decide +kernel
theorem dX7_forgetOldest_6 : decode cX7_forgetOldest 6 = .ok (.astore_n 1, 1) := by decide +kernel
theorem dX7_forgetOldest_7 : decode cX7_forgetOldest 7 = .ok (.iconst 1, 1) := by decide +kernel
theorem dX7_forgetOldest_8 : decode cX7_forgetOldest 8 = .ok (.istore_n 2, 1) := by decide +kernel
theorem dX7_forgetOldest_9 : decode cX7_forgetOldest 9 = .ok (.iload_n 2, 1) := by decide +kernel
theorem dX7_forgetOldest_10 : decode cX7_forgetOldest 10 = .ok (.bipush 8, 2) := by decide +kernel
theorem dX7_forgetOldest_12 : decode cX7_forgetOldest 12 = .ok (.if_icmp .ge 23, 3) := by decide +kernel
theorem dX7_forgetOldest_15 : decode cX7_forgetOldest 15 = .ok (.aload_n 0, 1) := by decide +kernel
theorem dX7_forgetOldest_16 : decode cX7_forgetOldest 16 = .ok (.getfield 44, 3) := by decide +kernel
theorem dX7_forgetOldest_19 : decode cX7_forgetOldest 19 = .ok (.iload_n 2, 1) := by decide +kernel
theorem dX7_forgetOldest_20 : decode cX7_forgetOldest 20 = .ok (.iconst 1, 1) := by decide +kernel
theorem dX7_forgetOldest_21 : decode cX7_forgetOldest 21 = .ok (.isub, 1) := by decide +kernel
theorem dX7_forgetOldest_22 : decode cX7_forgetOldest 22 = .ok (.aload_n 0, 1) := by decide +kernel
theorem dX7_forgetOldest_23 : decode cX7_forgetOldest 23 = .ok (.getfield 44, 3) := by decide +kernel
theorem dX7_forgetOldest_26 : decode cX7_forgetOldest 26 = .ok (.iload_n 2, 1) := by decide +kernel
theorem dX7_forgetOldest_27 : decode cX7_forgetOldest 27 = .ok (.aaload, 1) := by decide +kernel
theorem dX7_forgetOldest_28 : decode cX7_forgetOldest 28 = .ok (.aastore, 1) := by decide +kernel
theorem dX7_forgetOldest_29 : decode cX7_forgetOldest 29 = .ok (.iinc 2 1, 3) := by decide +kernel
theorem dX7_forgetOldest_32 : decode cX7_forgetOldest 32 = .ok (.goto (-23), 3) := by decide +kernel
theorem dX7_forgetOldest_35 : decode cX7_forgetOldest 35 = .ok (.aload_n 0, 1) := by decide +kernel
theorem dX7_forgetOldest_36 : decode cX7_forgetOldest 36 = .ok (.getfield 44, 3) := by decide +kernel
theorem dX7_forgetOldest_39 : decode cX7_forgetOldest 39 = .ok (.bipush 7, 2) := by decide +kernel
theorem dX7_forgetOldest_41 : decode cX7_forgetOldest 41 = .ok (.aload_n 1, 1) := by decide +kernel
theorem dX7_forgetOldest_42 : decode cX7_forgetOldest 42 = .ok (.aastore, 1) := by decide +kernel
theorem dX7_forgetOldest_43 : decode cX7_forgetOldest 43 = .ok (.aload_n 0, 1) := by decide +kernel
theorem dX7_forgetOldest_44 : decode cX7_forgetOldest 44 = .ok (.bipush 7, 2) := by decide +kernel
theorem dX7_forgetOldest_46 : decode cX7_forgetOldest 46 = .ok (.putfield 51, 3) := by decide +kernel
theorem dX7_forgetOldest_49 : decode cX7_forgetOldest 49 = .ok (.return_, 1) := by decide +kernel
set_option maxRecDepth 20000 in
theorem ggX7_costNow_X2_become : GoodIn wsX7_costNow wsX2_become := goodIn_r _ [8, 9, 10, 11, 12, 13, 14, 15, 16, 17, 18, 19, 20, 21, 22, 23, 24, 25, 26, 27, 28, 29, 30, 31, 32, 33, 34, 35, 36, 37, 38, 39, 40, 41, 42, 43, 44, 45, 46, 47, 48, 49, 50, 51, 52, 53, 54, 55, 56, 57, 58, 59, 60, 61, 62, 267, 268, 269, 270, 271, 272, 273, 274, 275, 276, 277, 278, 279, 280, 281, 282, 283, 284, 285, 286, 287, 288, 289, 290] (by decide +kernel) (by decide +kernel)
set_option maxRecDepth 20000 in
theorem gX7_costNow_X2_become : GoodIn wsX7_costNow (wsV RX7 79 RX2 yX2_become wsX2_become) := goodIn_app (goodIn_of _ (by decide +kernel)) ggX7_costNow_X2_become
set_option maxRecDepth 20000 in
theorem ggX7_costNow_X2_ask : GoodIn wsX7_costNow wsX2_ask := goodIn_r _ [66, 11, 67, 15, 10, 12, 16, 68, 69, 70, 52, 71, 54, 72, 73, 74, 7, 75, 76, 30, 31, 32, 14, 9, 77, 78, 79, 20, 80, 81, 82, 83, 84, 22, 85, 86, 87, 88, 89, 90, 91, 92, 93, 40, 94, 48, 43, 95, 96, 97, 98, 24, 99, 100, 101, 102, 103, 47, 42, 104, 34, 35, 36, 105, 106, 107, 108, 109, 110, 44, 111, 112, 113, 114, 115, 116, 117, 118, 46, 119, 120, 121, 122, 123, 124, 125, 126, 127, 128, 129, 130, 131, 132, 133, 134, 135, 136, 137, 138, 139, 140, 141, 142, 143, 144, 145, 146, 147, 148, 149, 150, 151, 152, 153, 154, 45, 155, 156, 157, 158, 159, 160, 161, 162, 163, 27, 164, 165, 166, 167, 168, 169, 170, 171, 172, 173, 174, 175, 176, 177, 178, 179, 180, 181, 182, 183, 184, 185, 186, 187, 188, 189, 190, 191, 192, 193, 194, 23, 195, 196, 197, 198, 199, 200, 201, 202, 203, 204, 205, 206, 207, 208, 209, 210, 211, 212, 213, 214, 215, 216, 217, 218, 219, 220, 221, 222, 13, 223, 224, 225, 226, 227, 228, 229, 230, 231, 232, 233, 234, 235, 236, 237, 238, 239, 240, 241, 242, 243, 244, 245, 246, 247, 248, 249, 250, 251, 252, 253, 59, 254, 61, 255, 62, 256, 267, 268, 269, 270, 271, 272, 273, 274, 287, 288, 275, 276, 277, 278, 279, 280, 281, 282, 283, 284, 285, 286, 289, 290] (by decide +kernel) (by decide +kernel)
set_option maxRecDepth 20000 in
theorem gX7_costNow_X2_ask : GoodIn wsX7_costNow (wsV RX7 178 RX2 yX2_ask wsX2_ask) := goodIn_app (goodIn_of _ (by decide +kernel)) ggX7_costNow_X2_ask
set_option maxRecDepth 20000 in
theorem ggX7_costNow_X0_numberAt : GoodIn wsX7_costNow wsX0_numberAt := goodIn_r _ [204, 54, 287, 288] (by decide +kernel) (by decide +kernel)
set_option maxRecDepth 20000 in
theorem gX7_costNow_X0_numberAt : GoodIn wsX7_costNow (wsV RX7 184 RX0 yX0_numberAt wsX0_numberAt) := goodIn_app (goodIn_of _ (by decide +kernel)) ggX7_costNow_X0_numberAt
theorem dX7_costNow_0 : decode cX7_costNow 0 = .ok (.aload_n 0, 1) := by decide +kernel
theorem dX7_costNow_1 : decode cX7_costNow 1 = .ok (.getfield 40, 3) := by decide +kernel
theorem dX7_costNow_4 : decode cX7_costNow 4 = .ok (.aload_n 0, 1) := by decide +kernel
theorem dX7_costNow_5 : decode cX7_costNow 5 = .ok (.getfield 48, 3) := by decide +kernel
theorem dX7_costNow_8 : decode cX7_costNow 8 = .ok (.invokevirtual 79, 3) := by decide +kernel
theorem dX7_costNow_11 : decode cX7_costNow 11 = .ok (.aload_n 0, 1) := by decide +kernel
theorem dX7_costNow_12 : decode cX7_costNow 12 = .ok (.getfield 40, 3) := by decide +kernel
theorem dX7_costNow_15 : decode cX7_costNow 15 = .ok (.iload_n 1, 1) := by decide +kernel
theorem dX7_costNow_16 : decode cX7_costNow 16 = .ok (.iload_n 2, 1) := by decide +kernel
theorem dX7_costNow_17 : decode cX7_costNow 17 = .ok (.invokevirtual 178, 3) := by decide +kernel
theorem dX7_costNow_20 : decode cX7_costNow 20 = .ok (.aload_n 0, 1) := by decide +kernel
theorem dX7_costNow_21 : decode cX7_costNow 21 = .ok (.getfield 40, 3) := by decide +kernel
theorem dX7_costNow_24 : decode cX7_costNow 24 = .ok (.getfield 181, 3) := by decide +kernel
theorem dX7_costNow_27 : decode cX7_costNow 27 = .ok (.iconst 4, 1) := by decide +kernel
theorem dX7_costNow_28 : decode cX7_costNow 28 = .ok (.invokevirtual 184, 3) := by decide +kernel
theorem dX7_costNow_31 : decode cX7_costNow 31 = .ok (.ireturn, 1) := by decide +kernel
theorem dX7_checkIndex_0 : decode cX7_checkIndex 0 = .ok (.iload_n 0, 1) := by decide +kernel
theorem dX7_checkIndex_1 : decode cX7_checkIndex 1 = .ok (.ifCond .lt 8, 3) := by decide +kernel
theorem dX7_checkIndex_4 : decode cX7_checkIndex 4 = .ok (.iload_n 0, 1) := by decide +kernel
theorem dX7_checkIndex_5 : decode cX7_checkIndex 5 = .ok (.iload_n 1, 1) := by decide +kernel
theorem dX7_checkIndex_6 : decode cX7_checkIndex 6 = .ok (.if_icmp .lt 11, 3) := by decide +kernel
theorem dX7_checkIndex_9 : decode cX7_checkIndex 9 = .ok (.new 267, 3) := by decide +kernel
theorem dX7_checkIndex_12 : decode cX7_checkIndex 12 = .ok (.dup, 1) := by decide +kernel
theorem dX7_checkIndex_13 : decode cX7_checkIndex 13 = .ok (.invokespecial 269, 3) := by decide +kernel
theorem dX7_checkIndex_16 : decode cX7_checkIndex 16 = .ok (.athrow, 1) := by decide +kernel
theorem dX7_checkIndex_17 : decode cX7_checkIndex 17 = .ok (.return_, 1) := by decide +kernel
theorem dX7_checkRange_0 : decode cX7_checkRange 0 = .ok (.iload_n 0, 1) := by decide +kernel
theorem dX7_checkRange_1 : decode cX7_checkRange 1 = .ok (.iload_n 1, 1) := by decide +kernel
theorem dX7_checkRange_2 : decode cX7_checkRange 2 = .ok (.if_icmp .lt 8, 3) := by decide +kernel
theorem dX7_checkRange_5 : decode cX7_checkRange 5 = .ok (.iload_n 0, 1) := by decide +kernel
theorem dX7_checkRange_6 : decode cX7_checkRange 6 = .ok (.iload_n 2, 1) := by decide +kernel
theorem dX7_checkRange_7 : decode cX7_checkRange 7 = .ok (.if_icmp .le 11, 3) := by decide +kernel
theorem dX7_checkRange_10 : decode cX7_checkRange 10 = .ok (.new 128, 3) := by decide +kernel
theorem dX7_checkRange_13 : decode cX7_checkRange 13 = .ok (.dup, 1) := by decide +kernel
theorem dX7_checkRange_14 : decode cX7_checkRange 14 = .ok (.invokespecial 130, 3) := by decide +kernel
theorem dX7_checkRange_17 : decode cX7_checkRange 17 = .ok (.athrow, 1) := by decide +kernel
theorem dX7_checkRange_18 : decode cX7_checkRange 18 = .ok (.return_, 1) := by decide +kernel
set_option maxRecDepth 20000 in
theorem ggX7_checkSpan_X7_checkRange : GoodIn wsX7_checkSpan wsX7_checkRange := goodIn_ca (goodIn_r _ [4, 5, 6] (by decide +kernel) (by decide +kernel)) (goodIn_sub (fun _ h => List.mem_cons_of_mem _ (List.mem_append_right _ h)) (by decide +kernel))
set_option maxRecDepth 20000 in
theorem gX7_checkSpan_X7_checkRange : GoodIn wsX7_checkSpan (va_wsS RX7 67 yX7_checkRange wsX7_checkRange) := goodIn_app (goodIn_of _ (by decide +kernel)) ggX7_checkSpan_X7_checkRange
theorem dX7_checkSpan_0 : decode cX7_checkSpan 0 = .ok (.iload_n 0, 1) := by decide +kernel
theorem dX7_checkSpan_1 : decode cX7_checkSpan 1 = .ok (.iconst 0, 1) := by decide +kernel
theorem dX7_checkSpan_2 : decode cX7_checkSpan 2 = .ok (.sipush 9999, 3) := by decide +kernel
theorem dX7_checkSpan_5 : decode cX7_checkSpan 5 = .ok (.invokestatic 67, 3) := by decide +kernel
theorem dX7_checkSpan_8 : decode cX7_checkSpan 8 = .ok (.iload_n 1, 1) := by decide +kernel
theorem dX7_checkSpan_9 : decode cX7_checkSpan 9 = .ok (.iload_n 0, 1) := by decide +kernel
theorem dX7_checkSpan_10 : decode cX7_checkSpan 10 = .ok (.iconst 1, 1) := by decide +kernel
theorem dX7_checkSpan_11 : decode cX7_checkSpan 11 = .ok (.iadd, 1) := by decide +kernel
theorem dX7_checkSpan_12 : decode cX7_checkSpan 12 = .ok (.sipush 10000, 3) := by decide +kernel
theorem dX7_checkSpan_15 : decode cX7_checkSpan 15 = .ok (.invokestatic 67, 3) := by decide +kernel
theorem dX7_checkSpan_18 : decode cX7_checkSpan 18 = .ok (.return_, 1) := by decide +kernel
theorem dX7_isSetting_0 : decode cX7_isSetting 0 = .ok (.iload_n 0, 1) := by decide +kernel
theorem dX7_isSetting_1 : decode cX7_isSetting 1 = .ok (.ifCond .lt 12, 3) := by decide +kernel
theorem dX7_isSetting_4 : decode cX7_isSetting 4 = .ok (.iload_n 0, 1) := by decide +kernel
theorem dX7_isSetting_5 : decode cX7_isSetting 5 = .ok (.iconst 4, 1) := by decide +kernel
theorem dX7_isSetting_6 : decode cX7_isSetting 6 = .ok (.if_icmp .ge 7, 3) := by decide +kernel
theorem dX7_isSetting_9 : decode cX7_isSetting 9 = .ok (.iconst 1, 1) := by decide +kernel
theorem dX7_isSetting_10 : decode cX7_isSetting 10 = .ok (.goto 4, 3) := by decide +kernel
theorem dX7_isSetting_13 : decode cX7_isSetting 13 = .ok (.iconst 0, 1) := by decide +kernel
theorem dX7_isSetting_14 : decode cX7_isSetting 14 = .ok (.ireturn, 1) := by decide +kernel
set_option maxRecDepth 20000 in
theorem ggX7_firstSetting_X7_isSetting : GoodIn wsX7_firstSetting wsX7_isSetting := goodIn_r _ [5] (by decide +kernel) (by decide +kernel)
set_option maxRecDepth 20000 in
theorem gX7_firstSetting_X7_isSetting : GoodIn wsX7_firstSetting (va_wsS RX7 270 yX7_isSetting wsX7_isSetting) := goodIn_app (goodIn_of _ (by decide +kernel)) ggX7_firstSetting_X7_isSetting
theorem dX7_firstSetting_0 : decode cX7_firstSetting 0 = .ok (.iload_n 0, 1) := by decide +kernel
theorem dX7_firstSetting_1 : decode cX7_firstSetting 1 = .ok (.invokestatic 270, 3) := by decide +kernel
theorem dX7_firstSetting_4 : decode cX7_firstSetting 4 = .ok (.ifCond .eq 11, 3) := by decide +kernel
theorem dX7_firstSetting_7 : decode cX7_firstSetting 7 = .ok (.getstatic 273, 3) := by decide +kernel
theorem dX7_firstSetting_10 : decode cX7_firstSetting 10 = .ok (.iload_n 0, 1) := by decide +kernel
theorem dX7_firstSetting_11 : decode cX7_firstSetting 11 = .ok (.iaload, 1) := by decide +kernel
theorem dX7_firstSetting_12 : decode cX7_firstSetting 12 = .ok (.goto 4, 3) := by decide +kernel
theorem dX7_firstSetting_15 : decode cX7_firstSetting 15 = .ok (.iconst 0, 1) := by decide +kernel
theorem dX7_firstSetting_16 : decode cX7_firstSetting 16 = .ok (.ireturn, 1) := by decide +kernel
set_option maxRecDepth 20000 in
theorem ggX7_leastSetting_X7_isSetting : GoodIn wsX7_leastSetting wsX7_isSetting := goodIn_r _ [5] (by decide +kernel) (by decide +kernel)
set_option maxRecDepth 20000 in
theorem gX7_leastSetting_X7_isSetting : GoodIn wsX7_leastSetting (va_wsS RX7 270 yX7_isSetting wsX7_isSetting) := goodIn_app (goodIn_of _ (by decide +kernel)) ggX7_leastSetting_X7_isSetting
theorem dX7_leastSetting_0 : decode cX7_leastSetting 0 = .ok (.iload_n 0, 1) := by decide +kernel
theorem dX7_leastSetting_1 : decode cX7_leastSetting 1 = .ok (.invokestatic 270, 3) := by decide +kernel
theorem dX7_leastSetting_4 : decode cX7_leastSetting 4 = .ok (.ifCond .eq 11, 3) := by decide +kernel
theorem dX7_leastSetting_7 : decode cX7_leastSetting 7 = .ok (.getstatic 277, 3) := by decide +kernel
theorem dX7_leastSetting_10 : decode cX7_leastSetting 10 = .ok (.iload_n 0, 1) := by decide +kernel
theorem dX7_leastSetting_11 : decode cX7_leastSetting 11 = .ok (.iaload, 1) := by decide +kernel
theorem dX7_leastSetting_12 : decode cX7_leastSetting 12 = .ok (.goto 4, 3) := by decide +kernel
theorem dX7_leastSetting_15 : decode cX7_leastSetting 15 = .ok (.iconst 0, 1) := by decide +kernel
theorem dX7_leastSetting_16 : decode cX7_leastSetting 16 = .ok (.ireturn, 1) := by decide +kernel
set_option maxRecDepth 20000 in
theorem ggX7_mostSetting_X7_isSetting : GoodIn wsX7_mostSetting wsX7_isSetting := goodIn_r _ [5] (by decide +kernel) (by decide +kernel)
set_option maxRecDepth 20000 in
theorem gX7_mostSetting_X7_isSetting : GoodIn wsX7_mostSetting (va_wsS RX7 270 yX7_isSetting wsX7_isSetting) := goodIn_app (goodIn_of _ (by decide +kernel)) ggX7_mostSetting_X7_isSetting
theorem dX7_mostSetting_0 : decode cX7_mostSetting 0 = .ok (.iload_n 0, 1) := by decide +kernel
theorem dX7_mostSetting_1 : decode cX7_mostSetting 1 = .ok (.invokestatic 270, 3) := by decide +kernel
theorem dX7_mostSetting_4 : decode cX7_mostSetting 4 = .ok (.ifCond .eq 11, 3) := by decide +kernel
theorem dX7_mostSetting_7 : decode cX7_mostSetting 7 = .ok (.getstatic 280, 3) := by decide +kernel
theorem dX7_mostSetting_10 : decode cX7_mostSetting 10 = .ok (.iload_n 0, 1) := by decide +kernel
theorem dX7_mostSetting_11 : decode cX7_mostSetting 11 = .ok (.iaload, 1) := by decide +kernel
theorem dX7_mostSetting_12 : decode cX7_mostSetting 12 = .ok (.goto 4, 3) := by decide +kernel
theorem dX7_mostSetting_15 : decode cX7_mostSetting 15 = .ok (.iconst 0, 1) := by decide +kernel
theorem dX7_mostSetting_16 : decode cX7_mostSetting 16 = .ok (.ireturn, 1) := by decide +kernel
theorem dX7_powerFor_0 : decode cX7_powerFor 0 = .ok (.iconst 0, 1) := by decide +kernel
theorem dX7_powerFor_1 : decode cX7_powerFor 1 = .ok (.istore_n 1, 1) := by decide +kernel
theorem dX7_powerFor_2 : decode cX7_powerFor 2 = .ok (.iload_n 1, 1) := by decide +kernel
theorem dX7_powerFor_3 : decode cX7_powerFor 3 = .ok (.bipush 30, 2) := by decide +kernel
theorem dX7_powerFor_5 : decode cX7_powerFor 5 = .ok (.if_icmp .ge 16, 3) := by decide +kernel
theorem dX7_powerFor_8 : decode cX7_powerFor 8 = .ok (.iconst 1, 1) := by decide +kernel
theorem dX7_powerFor_9 : decode cX7_powerFor 9 = .ok (.iload_n 1, 1) := by decide +kernel
theorem dX7_powerFor_10 : decode cX7_powerFor 10 = .ok (.ishl, 1) := by decide +kernel
theorem dX7_powerFor_11 : decode cX7_powerFor 11 = .ok (.iload_n 0, 1) := by decide +kernel
theorem dX7_powerFor_12 : decode cX7_powerFor 12 = .ok (.if_icmp .ge 9, 3) := by decide +kernel
theorem dX7_powerFor_15 : decode cX7_powerFor 15 = .ok (.iinc 1 1, 3) := by decide +kernel
theorem dX7_powerFor_18 : decode cX7_powerFor 18 = .ok (.goto (-16), 3) := by decide +kernel
theorem dX7_powerFor_21 : decode cX7_powerFor 21 = .ok (.iload_n 1, 1) := by decide +kernel
theorem dX7_powerFor_22 : decode cX7_powerFor 22 = .ok (.ireturn, 1) := by decide +kernel
theorem dX7_copyAll_0 : decode cX7_copyAll 0 = .ok (.aload_n 0, 1) := by decide +kernel
theorem dX7_copyAll_1 : decode cX7_copyAll 1 = .ok (.iconst 0, 1) := by decide +kernel
