theorem dX0_init_1 : decode cX0_init 1 = .ok (.invokespecial 3, 3) := by decide +kernel
theorem dX0_init_4 : decode cX0_init 4 = .ok (.aload_n 0, 1) := by decide +kernel
theorem dX0_init_5 : decode cX0_init 5 = .ok (.bipush 9, 2) := by decide +kernel
theorem dX0_init_7 : decode cX0_init 7 = .ok (.newarray .int, 2) := by decide +kernel
theorem dX0_init_9 : decode cX0_init 9 = .ok (.putfield 9, 3) := by decide +kernel
theorem dX0_init_12 : decode cX0_init 12 = .ok (.aload_n 0, 1) := by decide +kernel
theorem dX0_init_13 : decode cX0_init 13 = .ok (.iconst 0, 1) := by decide +kernel
theorem dX0_init_14 : decode cX0_init 14 = .ok (.putfield 15, 3) := by decide +kernel
theorem dX0_init_17 : decode cX0_init 17 = .ok (.return_, 1) := by decide +kernel
theorem dX0_clear_0 : decode cX0_clear 0 = .ok (.iconst 0, 1) := by decide +kernel
theorem dX0_clear_1 : decode cX0_clear 1 = .ok (.istore_n 1, 1) := by decide +kernel
theorem dX0_clear_2 : decode cX0_clear 2 = .ok (.iload_n 1, 1) := by decide +kernel
theorem dX0_clear_3 : decode cX0_clear 3 = .ok (.bipush 9, 2) := by decide +kernel
theorem dX0_clear_5 : decode cX0_clear 5 = .ok (.if_icmp .ge 16, 3) := by decide +kernel
theorem dX0_clear_8 : decode cX0_clear 8 = .ok (.aload_n 0, 1) := by decide +kernel
theorem dX0_clear_9 : decode cX0_clear 9 = .ok (.getfield 9, 3) := by decide +kernel
theorem dX0_clear_12 : decode cX0_clear 12 = .ok (.iload_n 1, 1) := by decide +kernel
theorem dX0_clear_13 : decode cX0_clear 13 = .ok (.iconst 0, 1) := by decide +kernel
theorem dX0_clear_14 : decode cX0_clear 14 = .ok (.iastore, 1) := by decide +kernel
theorem dX0_clear_15 : decode cX0_clear 15 = .ok (.iinc 1 1, 3) := by decide +kernel
theorem dX0_clear_18 : decode cX0_clear 18 = .ok (.goto (-16), 3) := by decide +kernel
theorem dX0_clear_21 : decode cX0_clear 21 = .ok (.aload_n 0, 1) := by decide +kernel
theorem dX0_clear_22 : decode cX0_clear 22 = .ok (.getfield 9, 3) := by decide +kernel
theorem dX0_clear_25 : decode cX0_clear 25 = .ok (.iconst 2, 1) := by decide +kernel
theorem dX0_clear_26 : decode cX0_clear 26 = .ok (.iconst (-1), 1) := by decide +kernel
theorem dX0_clear_27 : decode cX0_clear 27 = .ok (.iastore, 1) := by decide +kernel
theorem dX0_clear_28 : decode cX0_clear 28 = .ok (.aload_n 0, 1) := by decide +kernel
theorem dX0_clear_29 : decode cX0_clear 29 = .ok (.getfield 9, 3) := by decide +kernel
theorem dX0_clear_32 : decode cX0_clear 32 = .ok (.iconst 3, 1) := by decide +kernel
theorem dX0_clear_33 : decode cX0_clear 33 = .ok (.iconst (-1), 1) := by decide +kernel
theorem dX0_clear_34 : decode cX0_clear 34 = .ok (.iastore, 1) := by decide +kernel
theorem dX0_clear_35 : decode cX0_clear 35 = .ok (.return_, 1) := by decide +kernel
set_option maxRecDepth 20000 in
theorem ggX0_become_X7_copyAll : GoodIn wsX0_become wsX7_copyAll := goodIn_r _ [5, 6, 7, 8, 9, 10, 11, 12, 13] (by decide +kernel) (by decide +kernel)
set_option maxRecDepth 20000 in
theorem gX0_become_X7_copyAll_n19 : GoodIn wsX0_become (wsX7_copyAll) := ggX0_become_X7_copyAll
theorem dX0_become_0 : decode cX0_become 0 = .ok (.aload_n 1, 1) := by decide +kernel
theorem dX0_become_1 : decode cX0_become 1 = .ok (.getfield 9, 3) := by decide +kernel
theorem dX0_become_4 : decode cX0_become 4 = .ok (.aload_n 0, 1) := by decide +kernel
theorem dX0_become_5 : decode cX0_become 5 = .ok (.getfield 9, 3) := by decide +kernel
theorem dX0_become_8 : decode cX0_become 8 = .ok (.invokestatic 19, 3) := by decide +kernel
theorem dX0_become_11 : decode cX0_become 11 = .ok (.aload_n 0, 1) := by decide +kernel
theorem dX0_become_12 : decode cX0_become 12 = .ok (.aload_n 1, 1) := by decide +kernel
theorem dX0_become_13 : decode cX0_become 13 = .ok (.getfield 15, 3) := by decide +kernel
theorem dX0_become_16 : decode cX0_become 16 = .ok (.putfield 15, 3) := by decide +kernel
theorem dX0_become_19 : decode cX0_become 19 = .ok (.return_, 1) := by decide +kernel
theorem dX0_take_0 : decode cX0_take 0 = .ok (.aload_n 0, 1) := by decide +kernel
theorem dX0_take_1 : decode cX0_take 1 = .ok (.getfield 9, 3) := by decide +kernel
theorem dX0_take_4 : decode cX0_take 4 = .ok (.iconst 0, 1) := by decide +kernel
theorem dX0_take_5 : decode cX0_take 5 = .ok (.iaload, 1) := by decide +kernel
theorem dX0_take_6 : decode cX0_take 6 = .ok (.ifCond .ne 7, 3) := by decide +kernel
theorem dX0_take_9 : decode cX0_take 9 = .ok (.iconst 1, 1) := by decide +kernel
theorem dX0_take_10 : decode cX0_take 10 = .ok (.goto 4, 3) := by decide +kernel
theorem dX0_take_13 : decode cX0_take 13 = .ok (.iconst 0, 1) := by decide +kernel
theorem dX0_take_14 : decode cX0_take 14 = .ok (.istore_n 3, 1) := by decide +kernel
theorem dX0_take_15 : decode cX0_take 15 = .ok (.aload_n 0, 1) := by decide +kernel
theorem dX0_take_16 : decode cX0_take 16 = .ok (.getfield 9, 3) := by decide +kernel
theorem dX0_take_19 : decode cX0_take 19 = .ok (.iconst 0, 1) := by decide +kernel
theorem dX0_take_20 : decode cX0_take 20 = .ok (.dup2, 1) := by decide +kernel
theorem dX0_take_21 : decode cX0_take 21 = .ok (.iaload, 1) := by decide +kernel
theorem dX0_take_22 : decode cX0_take 22 = .ok (.iconst 1, 1) := by decide +kernel
theorem dX0_take_23 : decode cX0_take 23 = .ok (.iadd, 1) := by decide +kernel
theorem dX0_take_24 : decode cX0_take 24 = .ok (.iastore, 1) := by decide +kernel
theorem dX0_take_25 : decode cX0_take 25 = .ok (.aload_n 0, 1) := by decide +kernel
theorem dX0_take_26 : decode cX0_take 26 = .ok (.getfield 9, 3) := by decide +kernel
theorem dX0_take_29 : decode cX0_take 29 = .ok (.iconst 1, 1) := by decide +kernel
theorem dX0_take_30 : decode cX0_take 30 = .ok (.dup2, 1) := by decide +kernel
theorem dX0_take_31 : decode cX0_take 31 = .ok (.iaload, 1) := by decide +kernel
theorem dX0_take_32 : decode cX0_take 32 = .ok (.iload_n 2, 1) := by decide +kernel
theorem dX0_take_33 : decode cX0_take 33 = .ok (.iadd, 1) := by decide +kernel
theorem dX0_take_34 : decode cX0_take 34 = .ok (.iastore, 1) := by decide +kernel
theorem dX0_take_35 : decode cX0_take 35 = .ok (.aload_n 0, 1) := by decide +kernel
theorem dX0_take_36 : decode cX0_take 36 = .ok (.getfield 9, 3) := by decide +kernel
theorem dX0_take_39 : decode cX0_take 39 = .ok (.iconst 2, 1) := by decide +kernel
theorem dX0_take_40 : decode cX0_take 40 = .ok (.iload_n 3, 1) := by decide +kernel
theorem dX0_take_41 : decode cX0_take 41 = .ok (.ifCond .eq 7, 3) := by decide +kernel
theorem dX0_take_44 : decode cX0_take 44 = .ok (.iload_n 1, 1) := by decide +kernel
theorem dX0_take_45 : decode cX0_take 45 = .ok (.goto 13, 3) := by decide +kernel
theorem dX0_take_48 : decode cX0_take 48 = .ok (.aload_n 0, 1) := by decide +kernel
theorem dX0_take_49 : decode cX0_take 49 = .ok (.getfield 9, 3) := by decide +kernel
theorem dX0_take_52 : decode cX0_take 52 = .ok (.iconst 2, 1) := by decide +kernel
theorem dX0_take_53 : decode cX0_take 53 = .ok (.iaload, 1) := by decide +kernel
theorem dX0_take_54 : decode cX0_take 54 = .ok (.iload_n 1, 1) := by decide +kernel
theorem dX0_take_55 : decode cX0_take 55 = .ok (.invokestatic 23, 3) := by decide +kernel
theorem dX0_take_58 : decode cX0_take 58 = .ok (.iastore, 1) := by decide +kernel
theorem dX0_take_59 : decode cX0_take 59 = .ok (.aload_n 0, 1) := by decide +kernel
theorem dX0_take_60 : decode cX0_take 60 = .ok (.getfield 9, 3) := by decide +kernel
theorem dX0_take_63 : decode cX0_take 63 = .ok (.iconst 3, 1) := by decide +kernel
theorem dX0_take_64 : decode cX0_take 64 = .ok (.aload_n 0, 1) := by decide +kernel
theorem dX0_take_65 : decode cX0_take 65 = .ok (.getfield 9, 3) := by decide +kernel
theorem dX0_take_68 : decode cX0_take 68 = .ok (.iconst 3, 1) := by decide +kernel
theorem dX0_take_69 : decode cX0_take 69 = .ok (.iaload, 1) := by decide +kernel
theorem dX0_take_70 : decode cX0_take 70 = .ok (.iload_n 1, 1) := by decide +kernel
theorem dX0_take_71 : decode cX0_take 71 = .ok (.invokestatic 29, 3) := by decide +kernel
theorem dX0_take_74 : decode cX0_take 74 = .ok (.iastore, 1) := by decide +kernel
theorem dX0_take_75 : decode cX0_take 75 = .ok (.return_, 1) := by decide +kernel
theorem dX0_numberAt_0 : decode cX0_numberAt 0 = .ok (.iload_n 1, 1) := by decide +kernel
theorem dX0_numberAt_1 : decode cX0_numberAt 1 = .ok (.ifCond .lt 18, 3) := by decide +kernel
theorem dX0_numberAt_4 : decode cX0_numberAt 4 = .ok (.iload_n 1, 1) := by decide +kernel
theorem dX0_numberAt_5 : decode cX0_numberAt 5 = .ok (.bipush 9, 2) := by decide +kernel
theorem dX0_numberAt_7 : decode cX0_numberAt 7 = .ok (.if_icmp .ge 12, 3) := by decide +kernel
theorem dX0_numberAt_10 : decode cX0_numberAt 10 = .ok (.aload_n 0, 1) := by decide +kernel
theorem dX0_numberAt_11 : decode cX0_numberAt 11 = .ok (.getfield 9, 3) := by decide +kernel
theorem dX0_numberAt_14 : decode cX0_numberAt 14 = .ok (.iload_n 1, 1) := by decide +kernel
theorem dX0_numberAt_15 : decode cX0_numberAt 15 = .ok (.iaload, 1) := by decide +kernel
theorem dX0_numberAt_16 : decode cX0_numberAt 16 = .ok (.goto 4, 3) := by decide +kernel
theorem dX0_numberAt_19 : decode cX0_numberAt 19 = .ok (.iconst (-1), 1) := by decide +kernel
theorem dX0_numberAt_20 : decode cX0_numberAt 20 = .ok (.ireturn, 1) := by decide +kernel
theorem dX0_putNumber_0 : decode cX0_putNumber 0 = .ok (.iload_n 1, 1) := by decide +kernel
theorem dX0_putNumber_1 : decode cX0_putNumber 1 = .ok (.ifCond .lt 16, 3) := by decide +kernel
theorem dX0_putNumber_4 : decode cX0_putNumber 4 = .ok (.iload_n 1, 1) := by decide +kernel
theorem dX0_putNumber_5 : decode cX0_putNumber 5 = .ok (.bipush 9, 2) := by decide +kernel
theorem dX0_putNumber_7 : decode cX0_putNumber 7 = .ok (.if_icmp .ge 10, 3) := by decide +kernel
theorem dX0_putNumber_10 : decode cX0_putNumber 10 = .ok (.aload_n 0, 1) := by decide +kernel
theorem dX0_putNumber_11 : decode cX0_putNumber 11 = .ok (.getfield 9, 3) := by decide +kernel
theorem dX0_putNumber_14 : decode cX0_putNumber 14 = .ok (.iload_n 1, 1) := by decide +kernel
theorem dX0_putNumber_15 : decode cX0_putNumber 15 = .ok (.iload_n 2, 1) := by decide +kernel
theorem dX0_putNumber_16 : decode cX0_putNumber 16 = .ok (.iastore, 1) := by decide +kernel
theorem dX0_putNumber_17 : decode cX0_putNumber 17 = .ok (.return_, 1) := by decide +kernel
theorem dX1_init_0 : decode cX1_init 0 = .ok (.aload_n 0, 1) := by decide +kernel
theorem dX1_init_1 : decode cX1_init 1 = .ok (.invokespecial 1, 3) := by decide +kernel
theorem dX1_init_4 : decode cX1_init 4 = .ok (.aload_n 0, 1) := by decide +kernel
theorem dX1_init_5 : decode cX1_init 5 = .ok (.iconst 0, 1) := by decide +kernel
theorem dX1_init_6 : decode cX1_init 6 = .ok (.putfield 7, 3) := by decide +kernel
theorem dX1_init_9 : decode cX1_init 9 = .ok (.aload_n 0, 1) := by decide +kernel
theorem dX1_init_10 : decode cX1_init 10 = .ok (.iload_n 1, 1) := by decide +kernel
theorem dX1_init_11 : decode cX1_init 11 = .ok (.iconst 0, 1) := by decide +kernel
theorem dX1_init_12 : decode cX1_init 12 = .ok (.invokestatic 13, 3) := by decide +kernel
theorem dX1_init_15 : decode cX1_init 15 = .ok (.newarray .byte, 2) := by decide +kernel
theorem dX1_init_17 : decode cX1_init 17 = .ok (.putfield 19, 3) := by decide +kernel
theorem dX1_init_20 : decode cX1_init 20 = .ok (.return_, 1) := by decide +kernel
theorem dX1_put_0 : decode cX1_put 0 = .ok (.aload_n 0, 1) := by decide +kernel
theorem dX1_put_1 : decode cX1_put 1 = .ok (.getfield 7, 3) := by decide +kernel
theorem dX1_put_4 : decode cX1_put 4 = .ok (.ifCond .lt 36, 3) := by decide +kernel
theorem dX1_put_7 : decode cX1_put 7 = .ok (.aload_n 0, 1) := by decide +kernel
theorem dX1_put_8 : decode cX1_put 8 = .ok (.getfield 7, 3) := by decide +kernel
theorem dX1_put_11 : decode cX1_put 11 = .ok (.aload_n 0, 1) := by decide +kernel
theorem dX1_put_12 : decode cX1_put 12 = .ok (.getfield 19, 3) := by decide +kernel
theorem dX1_put_15 : decode cX1_put 15 = .ok (.arraylength, 1) := by decide +kernel
theorem dX1_put_16 : decode cX1_put 16 = .ok (.if_icmp .ge 24, 3) := by decide +kernel
theorem dX1_put_19 : decode cX1_put 19 = .ok (.aload_n 0, 1) := by decide +kernel
theorem dX1_put_20 : decode cX1_put 20 = .ok (.getfield 19, 3) := by decide +kernel
theorem dX1_put_23 : decode cX1_put 23 = .ok (.aload_n 0, 1) := by decide +kernel
theorem dX1_put_24 : decode cX1_put 24 = .ok (.getfield 7, 3) := by decide +kernel
theorem dX1_put_27 : decode cX1_put 27 = .ok (.iload_n 1, 1) := by decide +kernel
theorem dX1_put_28 : decode cX1_put 28 = .ok (.i2b, 1) := by decide +kernel
theorem dX1_put_29 : decode cX1_put 29 = .ok (.bastore, 1) := by decide +kernel
theorem dX1_put_30 : decode cX1_put 30 = .ok (.aload_n 0, 1) := by decide +kernel
theorem dX1_put_31 : decode cX1_put 31 = .ok (.dup, 1) := by decide +kernel
theorem dX1_put_32 : decode cX1_put 32 = .ok (.getfield 7, 3) := by decide +kernel
theorem dX1_put_35 : decode cX1_put 35 = .ok (.iconst 1, 1) := by decide +kernel
theorem dX1_put_36 : decode cX1_put 36 = .ok (.iadd, 1) := by decide +kernel
theorem dX1_put_37 : decode cX1_put 37 = .ok (.putfield 7, 3) := by decide +kernel
theorem dX1_put_40 : decode cX1_put 40 = .ok (.return_, 1) := by decide +kernel
set_option maxRecDepth 20000 in
theorem ggX1_putFour_X1_put : GoodIn wsX1_putFour wsX1_put := goodIn_r _ [5, 6, 7, 8, 9] (by decide +kernel) (by decide +kernel)
set_option maxRecDepth 20000 in
theorem gX1_putFour_X1_put : GoodIn wsX1_putFour (wsV RX1 23 RX1 yX1_put wsX1_put) := goodIn_app (goodIn_of _ (by decide +kernel)) ggX1_putFour_X1_put
theorem dX1_putFour_0 : decode cX1_putFour 0 = .ok (.bipush 24, 2) := by decide +kernel
theorem dX1_putFour_2 : decode cX1_putFour 2 = .ok (.istore_n 2, 1) := by decide +kernel
theorem dX1_putFour_3 : decode cX1_putFour 3 = .ok (.iload_n 2, 1) := by decide +kernel
theorem dX1_putFour_4 : decode cX1_putFour 4 = .ok (.ifCond .lt 16, 3) := by decide +kernel
theorem dX1_putFour_7 : decode cX1_putFour 7 = .ok (.aload_n 0, 1) := by decide +kernel
theorem dX1_putFour_8 : decode cX1_putFour 8 = .ok (.iload_n 1, 1) := by decide +kernel
theorem dX1_putFour_9 : decode cX1_putFour 9 = .ok (.iload_n 2, 1) := by decide +kernel
theorem dX1_putFour_10 : decode cX1_putFour 10 = .ok (.ishr, 1) := by decide +kernel
theorem dX1_putFour_11 : decode cX1_putFour 11 = .ok (.invokevirtual 23, 3) := by decide +kernel
theorem dX1_putFour_14 : decode cX1_putFour 14 = .ok (.iinc 2 (-8), 3) := by decide +kernel
theorem dX1_putFour_17 : decode cX1_putFour 17 = .ok (.goto (-14), 3) := by decide +kernel
theorem dX1_putFour_20 : decode cX1_putFour 20 = .ok (.return_, 1) := by decide +kernel
set_option maxRecDepth 20000 in
theorem ggX1_putNumber_X1_put : GoodIn wsX1_putNumber wsX1_put := goodIn_r _ [5, 6, 7, 8, 9] (by decide +kernel) (by decide +kernel)
set_option maxRecDepth 20000 in
theorem gX1_putNumber_X1_put : GoodIn wsX1_putNumber (wsV RX1 23 RX1 yX1_put wsX1_put) := goodIn_app (goodIn_of _ (by decide +kernel)) ggX1_putNumber_X1_put
theorem dX1_putNumber_0 : decode cX1_putNumber 0 = .ok (.iconst 1, 1) := by decide +kernel
theorem dX1_putNumber_1 : decode cX1_putNumber 1 = .ok (.istore_n 2, 1) := by decide +kernel
theorem dX1_putNumber_2 : decode cX1_putNumber 2 = .ok (.iconst 1, 1) := by decide +kernel
theorem dX1_putNumber_3 : decode cX1_putNumber 3 = .ok (.istore_n 3, 1) := by decide +kernel
theorem dX1_putNumber_4 : decode cX1_putNumber 4 = .ok (.iload_n 3, 1) := by decide +kernel
theorem dX1_putNumber_5 : decode cX1_putNumber 5 = .ok (.bipush 10, 2) := by decide +kernel
theorem dX1_putNumber_7 : decode cX1_putNumber 7 = .ok (.if_icmp .ge 22, 3) := by decide +kernel
theorem dX1_putNumber_10 : decode cX1_putNumber 10 = .ok (.iload_n 1, 1) := by decide +kernel
theorem dX1_putNumber_11 : decode cX1_putNumber 11 = .ok (.iload_n 2, 1) := by decide +kernel
theorem dX1_putNumber_12 : decode cX1_putNumber 12 = .ok (.idiv, 1) := by decide +kernel
theorem dX1_putNumber_13 : decode cX1_putNumber 13 = .ok (.bipush 10, 2) := by decide +kernel
theorem dX1_putNumber_15 : decode cX1_putNumber 15 = .ok (.if_icmp .lt 14, 3) := by decide +kernel
theorem dX1_putNumber_18 : decode cX1_putNumber 18 = .ok (.iload_n 2, 1) := by decide +kernel
theorem dX1_putNumber_19 : decode cX1_putNumber 19 = .ok (.bipush 10, 2) := by decide +kernel
theorem dX1_putNumber_21 : decode cX1_putNumber 21 = .ok (.imul, 1) := by decide +kernel
theorem dX1_putNumber_22 : decode cX1_putNumber 22 = .ok (.istore_n 2, 1) := by decide +kernel
theorem dX1_putNumber_23 : decode cX1_putNumber 23 = .ok (.iinc 3 1, 3) := by decide +kernel
theorem dX1_putNumber_26 : decode cX1_putNumber 26 = .ok (.goto (-22), 3) := by decide +kernel
theorem dX1_putNumber_29 : decode cX1_putNumber 29 = .ok (.iload_n 2, 1) := by decide +kernel
theorem dX1_putNumber_30 : decode cX1_putNumber 30 = .ok (.ifCond .le 24, 3) := by decide +kernel
theorem dX1_putNumber_33 : decode cX1_putNumber 33 = .ok (.aload_n 0, 1) := by decide +kernel
theorem dX1_putNumber_34 : decode cX1_putNumber 34 = .ok (.bipush 48, 2) := by decide +kernel
theorem dX1_putNumber_36 : decode cX1_putNumber 36 = .ok (.iload_n 1, 1) := by decide +kernel
theorem dX1_putNumber_37 : decode cX1_putNumber 37 = .ok (.iload_n 2, 1) := by decide +kernel
theorem dX1_putNumber_38 : decode cX1_putNumber 38 = .ok (.idiv, 1) := by decide +kernel
theorem dX1_putNumber_39 : decode cX1_putNumber 39 = .ok (.bipush 10, 2) := by decide +kernel
theorem dX1_putNumber_41 : decode cX1_putNumber 41 = .ok (.irem, 1) := by decide +kernel
theorem dX1_putNumber_42 : decode cX1_putNumber 42 = .ok (.iadd, 1) := by decide +kernel
theorem dX1_putNumber_43 : decode cX1_putNumber 43 = .ok (.invokevirtual 23, 3) := by decide +kernel
theorem dX1_putNumber_46 : decode cX1_putNumber 46 = .ok (.iload_n 2, 1) := by decide +kernel
theorem dX1_putNumber_47 : decode cX1_putNumber 47 = .ok (.bipush 10, 2) := by decide +kernel
theorem dX1_putNumber_49 : decode cX1_putNumber 49 = .ok (.idiv, 1) := by decide +kernel
theorem dX1_putNumber_50 : decode cX1_putNumber 50 = .ok (.istore_n 2, 1) := by decide +kernel
theorem dX1_putNumber_51 : decode cX1_putNumber 51 = .ok (.goto (-22), 3) := by decide +kernel
theorem dX1_putNumber_54 : decode cX1_putNumber 54 = .ok (.return_, 1) := by decide +kernel
theorem dX1_byteAt_0 : decode cX1_byteAt 0 = .ok (.iload_n 1, 1) := by decide +kernel
theorem dX1_byteAt_1 : decode cX1_byteAt 1 = .ok (.ifCond .lt 29, 3) := by decide +kernel
theorem dX1_byteAt_4 : decode cX1_byteAt 4 = .ok (.iload_n 1, 1) := by decide +kernel
theorem dX1_byteAt_5 : decode cX1_byteAt 5 = .ok (.aload_n 0, 1) := by decide +kernel
theorem dX1_byteAt_6 : decode cX1_byteAt 6 = .ok (.getfield 7, 3) := by decide +kernel
theorem dX1_byteAt_9 : decode cX1_byteAt 9 = .ok (.if_icmp .ge 21, 3) := by decide +kernel
theorem dX1_byteAt_12 : decode cX1_byteAt 12 = .ok (.iload_n 1, 1) := by decide +kernel
theorem dX1_byteAt_13 : decode cX1_byteAt 13 = .ok (.aload_n 0, 1) := by decide +kernel
theorem dX1_byteAt_14 : decode cX1_byteAt 14 = .ok (.getfield 19, 3) := by decide +kernel
theorem dX1_byteAt_17 : decode cX1_byteAt 17 = .ok (.arraylength, 1) := by decide +kernel
theorem dX1_byteAt_18 : decode cX1_byteAt 18 = .ok (.if_icmp .ge 12, 3) := by decide +kernel
theorem dX1_byteAt_21 : decode cX1_byteAt 21 = .ok (.aload_n 0, 1) := by decide +kernel
theorem dX1_byteAt_22 : decode cX1_byteAt 22 = .ok (.getfield 19, 3) := by decide +kernel
theorem dX1_byteAt_25 : decode cX1_byteAt 25 = .ok (.iload_n 1, 1) := by decide +kernel
theorem dX1_byteAt_26 : decode cX1_byteAt 26 = .ok (.baload, 1) := by decide +kernel
theorem dX1_byteAt_27 : decode cX1_byteAt 27 = .ok (.goto 4, 3) := by decide +kernel
theorem dX1_byteAt_30 : decode cX1_byteAt 30 = .ok (.iconst 0, 1) := by decide +kernel
theorem dX1_byteAt_31 : decode cX1_byteAt 31 = .ok (.ireturn, 1) := by decide +kernel
set_option maxRecDepth 20000 in
theorem ggX2_init_X6_init : GoodIn wsX2_init wsX6_init := goodIn_r _ [26, 27, 2, 3, 20, 28, 29, 30, 31, 81, 82, 83, 84] (by decide +kernel) (by decide +kernel)
set_option maxRecDepth 20000 in
theorem gX2_init_X6_init_n11 : GoodIn wsX2_init (wsX6_init) := ggX2_init_X6_init
set_option maxRecDepth 20000 in
theorem ggX2_init_X3_init : GoodIn wsX2_init wsX3_init := goodIn_r _ [34, 35, 2, 3, 20, 36, 37, 38, 39, 40, 41, 42, 43, 93, 94, 95, 96, 97, 98, 99, 100] (by decide +kernel) (by decide +kernel)
set_option maxRecDepth 20000 in
theorem gX2_init_X3_init : GoodIn wsX2_init (wsX3_init) := ggX2_init_X3_init
set_option maxRecDepth 20000 in
theorem ggX2_init_X0_init : GoodIn wsX2_init wsX0_init := goodIn_r _ [45, 46, 2, 3, 20, 47, 48, 101, 102] (by decide +kernel) (by decide +kernel)
set_option maxRecDepth 20000 in
theorem gX2_init_X0_init_n29 : GoodIn wsX2_init (wsX0_init) := ggX2_init_X0_init
set_option maxRecDepth 20000 in
theorem ggX2_init_X4_init : GoodIn wsX2_init wsX4_init := goodIn_r _ [50, 51, 2, 3, 20, 52, 53, 103, 104] (by decide +kernel) (by decide +kernel)
set_option maxRecDepth 20000 in
theorem gX2_init_X4_init_n36 : GoodIn wsX2_init (wsX4_init) := ggX2_init_X4_init
set_option maxRecDepth 20000 in
theorem ggX2_init_X2_clear : GoodIn wsX2_init wsX2_clear := goodIn_r _ [58, 7, 59, 11, 15, 60, 19, 61, 23, 24, 62, 63, 64, 10, 65, 41, 42, 37, 38, 39, 40, 66, 67, 68, 14, 69, 47, 70, 71, 72, 73, 74, 75, 76, 77, 78, 79, 57, 80, 21, 85, 86, 87, 88, 89, 90, 91, 92, 81, 82, 83, 84, 101, 102, 103, 104, 93, 94, 95, 96, 97, 98, 99, 100] (by decide +kernel) (by decide +kernel)
set_option maxRecDepth 20000 in
theorem gX2_init_X2_clear : GoodIn wsX2_init (wsV RX2 55 RX2 yX2_clear wsX2_clear) := goodIn_app (goodIn_of _ (by decide +kernel)) ggX2_init_X2_clear
theorem dX2_init_0 : decode cX2_init 0 = .ok (.aload_n 0, 1) := by decide +kernel
theorem dX2_init_1 : decode cX2_init 1 = .ok (.invokespecial 3, 3) := by decide +kernel
theorem dX2_init_4 : decode cX2_init 4 = .ok (.aload_n 0, 1) := by decide +kernel
theorem dX2_init_5 : decode cX2_init 5 = .ok (.new 9, 3) := by decide +kernel
theorem dX2_init_8 : decode cX2_init 8 = .ok (.dup, 1) := by decide +kernel
theorem dX2_init_9 : decode cX2_init 9 = .ok (.invokespecial 11, 3) := by decide +kernel
theorem dX2_init_12 : decode cX2_init 12 = .ok (.putfield 12, 3) := by decide +kernel
theorem dX2_init_15 : decode cX2_init 15 = .ok (.aload_n 0, 1) := by decide +kernel
theorem dX2_init_16 : decode cX2_init 16 = .ok (.new 18, 3) := by decide +kernel
theorem dX2_init_19 : decode cX2_init 19 = .ok (.dup, 1) := by decide +kernel
theorem dX2_init_20 : decode cX2_init 20 = .ok (.aload_n 0, 1) := by decide +kernel
theorem dX2_init_21 : decode cX2_init 21 = .ok (.getfield 12, 3) := by decide +kernel
theorem dX2_init_24 : decode cX2_init 24 = .ok (.invokespecial 20, 3) := by decide +kernel
theorem dX2_init_27 : decode cX2_init 27 = .ok (.putfield 23, 3) := by decide +kernel
theorem dX2_init_30 : decode cX2_init 30 = .ok (.aload_n 0, 1) := by decide +kernel
theorem dX2_init_31 : decode cX2_init 31 = .ok (.new 27, 3) := by decide +kernel
theorem dX2_init_34 : decode cX2_init 34 = .ok (.dup, 1) := by decide +kernel
theorem dX2_init_35 : decode cX2_init 35 = .ok (.invokespecial 29, 3) := by decide +kernel
theorem dX2_init_38 : decode cX2_init 38 = .ok (.putfield 30, 3) := by decide +kernel
theorem dX2_init_41 : decode cX2_init 41 = .ok (.aload_n 0, 1) := by decide +kernel
theorem dX2_init_42 : decode cX2_init 42 = .ok (.new 34, 3) := by decide +kernel
theorem dX2_init_45 : decode cX2_init 45 = .ok (.dup, 1) := by decide +kernel
theorem dX2_init_46 : decode cX2_init 46 = .ok (.invokespecial 36, 3) := by decide +kernel
theorem dX2_init_49 : decode cX2_init 49 = .ok (.putfield 37, 3) := by decide +kernel
theorem dX2_init_52 : decode cX2_init 52 = .ok (.aload_n 0, 1) := by decide +kernel
theorem dX2_init_53 : decode cX2_init 53 = .ok (.iconst 4, 1) := by decide +kernel
theorem dX2_init_54 : decode cX2_init 54 = .ok (.newarray .int, 2) := by decide +kernel
theorem dX2_init_56 : decode cX2_init 56 = .ok (.putfield 41, 3) := by decide +kernel
theorem dX2_init_59 : decode cX2_init 59 = .ok (.aload_n 0, 1) := by decide +kernel
theorem dX2_init_60 : decode cX2_init 60 = .ok (.bipush 31, 2) := by decide +kernel
theorem dX2_init_62 : decode cX2_init 62 = .ok (.newarray .int, 2) := by decide +kernel
theorem dX2_init_64 : decode cX2_init 64 = .ok (.putfield 45, 3) := by decide +kernel
theorem dX2_init_67 : decode cX2_init 67 = .ok (.aload_n 0, 1) := by decide +kernel
theorem dX2_init_68 : decode cX2_init 68 = .ok (.iconst 0, 1) := by decide +kernel
theorem dX2_init_69 : decode cX2_init 69 = .ok (.putfield 48, 3) := by decide +kernel
theorem dX2_init_72 : decode cX2_init 72 = .ok (.aload_n 0, 1) := by decide +kernel
theorem dX2_init_73 : decode cX2_init 73 = .ok (.iconst 0, 1) := by decide +kernel
theorem dX2_init_74 : decode cX2_init 74 = .ok (.putfield 52, 3) := by decide +kernel
theorem dX2_init_77 : decode cX2_init 77 = .ok (.aload_n 0, 1) := by decide +kernel
theorem dX2_init_78 : decode cX2_init 78 = .ok (.invokevirtual 55, 3) := by decide +kernel
theorem dX2_init_81 : decode cX2_init 81 = .ok (.return_, 1) := by decide +kernel
set_option maxRecDepth 20000 in
theorem ggX2_clear_X3_clear : GoodIn wsX2_clear wsX3_clear := goodIn_r _ [14, 15, 16, 17, 18, 19, 20, 56, 57, 58, 59, 60, 61, 62, 63] (by decide +kernel) (by decide +kernel)
set_option maxRecDepth 20000 in
theorem gX2_clear_X3_clear : GoodIn wsX2_clear (wsV RX2 61 RX3 yX3_clear wsX3_clear) := goodIn_app (goodIn_of _ (by decide +kernel)) ggX2_clear_X3_clear
set_option maxRecDepth 20000 in
theorem ggX2_clear_X0_clear : GoodIn wsX2_clear wsX0_clear := goodIn_r _ [25, 26, 52, 53] (by decide +kernel) (by decide +kernel)
set_option maxRecDepth 20000 in
theorem gX2_clear_X0_clear : GoodIn wsX2_clear (wsV RX2 62 RX0 yX0_clear wsX0_clear) := goodIn_app (goodIn_of _ (by decide +kernel)) ggX2_clear_X0_clear
set_option maxRecDepth 20000 in
theorem ggX2_clear_X7_firstSetting : GoodIn wsX2_clear wsX7_firstSetting := goodIn_r _ [29, 30, 31, 32, 28, 33] (by decide +kernel) (by decide +kernel)
set_option maxRecDepth 20000 in
theorem gX2_clear_X7_firstSetting_n68 : GoodIn wsX2_clear (wsX7_firstSetting) := ggX2_clear_X7_firstSetting
set_option maxRecDepth 20000 in
theorem ggX2_clear_X2_putSetting : GoodIn wsX2_clear wsX2_putSetting := goodIn_r _ [38, 39, 32, 28, 33, 40, 41, 42, 43, 44, 45, 46, 47] (by decide +kernel) (by decide +kernel)
set_option maxRecDepth 20000 in
theorem gX2_clear_X2_putSetting : GoodIn wsX2_clear (wsV RX2 72 RX2 yX2_putSetting wsX2_putSetting) := goodIn_app (goodIn_of _ (by decide +kernel)) ggX2_clear_X2_putSetting
theorem dX2_clear_0 : decode cX2_clear 0 = .ok (.aload_n 0, 1) := by decide +kernel
theorem dX2_clear_1 : decode cX2_clear 1 = .ok (.getfield 12, 3) := by decide +kernel
theorem dX2_clear_4 : decode cX2_clear 4 = .ok (.iconst 0, 1) := by decide +kernel
theorem dX2_clear_5 : decode cX2_clear 5 = .ok (.putfield 58, 3) := by decide +kernel
theorem dX2_clear_8 : decode cX2_clear 8 = .ok (.aload_n 0, 1) := by decide +kernel
theorem dX2_clear_9 : decode cX2_clear 9 = .ok (.getfield 23, 3) := by decide +kernel
theorem dX2_clear_12 : decode cX2_clear 12 = .ok (.invokevirtual 61, 3) := by decide +kernel
theorem dX2_clear_15 : decode cX2_clear 15 = .ok (.aload_n 0, 1) := by decide +kernel
theorem dX2_clear_16 : decode cX2_clear 16 = .ok (.getfield 30, 3) := by decide +kernel
theorem dX2_clear_19 : decode cX2_clear 19 = .ok (.invokevirtual 62, 3) := by decide +kernel
theorem dX2_clear_22 : decode cX2_clear 22 = .ok (.aload_n 0, 1) := by decide +kernel
theorem dX2_clear_23 : decode cX2_clear 23 = .ok (.getfield 30, 3) := by decide +kernel
theorem dX2_clear_26 : decode cX2_clear 26 = .ok (.iconst 0, 1) := by decide +kernel
theorem dX2_clear_27 : decode cX2_clear 27 = .ok (.putfield 63, 3) := by decide +kernel
theorem dX2_clear_30 : decode cX2_clear 30 = .ok (.aload_n 0, 1) := by decide +kernel
theorem dX2_clear_31 : decode cX2_clear 31 = .ok (.getfield 37, 3) := by decide +kernel
theorem dX2_clear_34 : decode cX2_clear 34 = .ok (.iconst 0, 1) := by decide +kernel
theorem dX2_clear_35 : decode cX2_clear 35 = .ok (.putfield 67, 3) := by decide +kernel
theorem dX2_clear_38 : decode cX2_clear 38 = .ok (.aload_n 0, 1) := by decide +kernel
theorem dX2_clear_39 : decode cX2_clear 39 = .ok (.iconst 0, 1) := by decide +kernel
theorem dX2_clear_40 : decode cX2_clear 40 = .ok (.putfield 48, 3) := by decide +kernel
theorem dX2_clear_43 : decode cX2_clear 43 = .ok (.aload_n 0, 1) := by decide +kernel
theorem dX2_clear_44 : decode cX2_clear 44 = .ok (.iconst 0, 1) := by decide +kernel
theorem dX2_clear_45 : decode cX2_clear 45 = .ok (.putfield 52, 3) := by decide +kernel
theorem dX2_clear_48 : decode cX2_clear 48 = .ok (.iconst 0, 1) := by decide +kernel
theorem dX2_clear_49 : decode cX2_clear 49 = .ok (.istore_n 1, 1) := by decide +kernel
theorem dX2_clear_50 : decode cX2_clear 50 = .ok (.iload_n 1, 1) := by decide +kernel
theorem dX2_clear_51 : decode cX2_clear 51 = .ok (.iconst 4, 1) := by decide +kernel
theorem dX2_clear_52 : decode cX2_clear 52 = .ok (.if_icmp .ge 18, 3) := by decide +kernel
theorem dX2_clear_55 : decode cX2_clear 55 = .ok (.aload_n 0, 1) := by decide +kernel
theorem dX2_clear_56 : decode cX2_clear 56 = .ok (.iload_n 1, 1) := by decide +kernel
theorem dX2_clear_57 : decode cX2_clear 57 = .ok (.iload_n 1, 1) := by decide +kernel
theorem dX2_clear_58 : decode cX2_clear 58 = .ok (.invokestatic 68, 3) := by decide +kernel
theorem dX2_clear_61 : decode cX2_clear 61 = .ok (.invokevirtual 72, 3) := by decide +kernel
theorem dX2_clear_64 : decode cX2_clear 64 = .ok (.iinc 1 1, 3) := by decide +kernel
theorem dX2_clear_67 : decode cX2_clear 67 = .ok (.goto (-17), 3) := by decide +kernel
theorem dX2_clear_70 : decode cX2_clear 70 = .ok (.return_, 1) := by decide +kernel
set_option maxRecDepth 20000 in
theorem ggX2_become_X6_become : GoodIn wsX2_become wsX6_become := goodIn_r _ [13, 14, 15, 16, 17, 18, 19, 20, 21, 22, 23, 24, 25, 26, 27, 28, 63, 64, 65, 66] (by decide +kernel) (by decide +kernel)
set_option maxRecDepth 20000 in
theorem gX2_become_X6_become : GoodIn wsX2_become (wsV RX2 76 RX6 yX6_become wsX6_become) := goodIn_app (goodIn_of _ (by decide +kernel)) ggX2_become_X6_become
set_option maxRecDepth 20000 in
theorem ggX2_become_X3_become : GoodIn wsX2_become wsX3_become := goodIn_r _ [33, 34, 35, 36, 37, 38, 39, 40, 18, 19, 20, 21, 22, 23, 24, 25, 26, 27, 28, 67, 68, 69, 70, 71, 72, 73, 74] (by decide +kernel) (by decide +kernel)
set_option maxRecDepth 20000 in
theorem gX2_become_X3_become : GoodIn wsX2_become (wsV RX2 79 RX3 yX3_become wsX3_become) := goodIn_app (goodIn_of _ (by decide +kernel)) ggX2_become_X3_become
set_option maxRecDepth 20000 in
theorem ggX2_become_X0_become : GoodIn wsX2_become wsX0_become := goodIn_r _ [45, 46, 47, 18, 19, 20, 21, 22, 23, 24, 25, 26, 27, 28, 75, 76] (by decide +kernel) (by decide +kernel)
set_option maxRecDepth 20000 in
theorem gX2_become_X0_become : GoodIn wsX2_become (wsV RX2 82 RX0 yX0_become wsX0_become) := goodIn_app (goodIn_of _ (by decide +kernel)) ggX2_become_X0_become
set_option maxRecDepth 20000 in
theorem ggX2_become_X4_become : GoodIn wsX2_become wsX4_become := goodIn_r _ [52, 53, 54, 18, 19, 20, 21, 22, 23, 24, 25, 26, 27, 28, 77, 78] (by decide +kernel) (by decide +kernel)
set_option maxRecDepth 20000 in
theorem gX2_become_X4_become : GoodIn wsX2_become (wsV RX2 85 RX4 yX4_become wsX4_become) := goodIn_app (goodIn_of _ (by decide +kernel)) ggX2_become_X4_become
set_option maxRecDepth 20000 in
theorem ggX2_become_X7_copyAll : GoodIn wsX2_become wsX7_copyAll := goodIn_r _ [20, 21, 22, 23, 24, 25, 26, 27, 28] (by decide +kernel) (by decide +kernel)
set_option maxRecDepth 20000 in
theorem gX2_become_X7_copyAll_n88 : GoodIn wsX2_become (wsX7_copyAll) := ggX2_become_X7_copyAll
theorem dX2_become_0 : decode cX2_become 0 = .ok (.aload_n 0, 1) := by decide +kernel
theorem dX2_become_1 : decode cX2_become 1 = .ok (.getfield 12, 3) := by decide +kernel
theorem dX2_become_4 : decode cX2_become 4 = .ok (.aload_n 1, 1) := by decide +kernel
theorem dX2_become_5 : decode cX2_become 5 = .ok (.getfield 12, 3) := by decide +kernel
theorem dX2_become_8 : decode cX2_become 8 = .ok (.invokevirtual 76, 3) := by decide +kernel
theorem dX2_become_11 : decode cX2_become 11 = .ok (.aload_n 0, 1) := by decide +kernel
theorem dX2_become_12 : decode cX2_become 12 = .ok (.getfield 23, 3) := by decide +kernel
theorem dX2_become_15 : decode cX2_become 15 = .ok (.aload_n 1, 1) := by decide +kernel
theorem dX2_become_16 : decode cX2_become 16 = .ok (.getfield 23, 3) := by decide +kernel
theorem dX2_become_19 : decode cX2_become 19 = .ok (.invokevirtual 79, 3) := by decide +kernel
theorem dX2_become_22 : decode cX2_become 22 = .ok (.aload_n 0, 1) := by decide +kernel
theorem dX2_become_23 : decode cX2_become 23 = .ok (.getfield 30, 3) := by decide +kernel
theorem dX2_become_26 : decode cX2_become 26 = .ok (.aload_n 1, 1) := by decide +kernel
theorem dX2_become_27 : decode cX2_become 27 = .ok (.getfield 30, 3) := by decide +kernel
theorem dX2_become_30 : decode cX2_become 30 = .ok (.invokevirtual 82, 3) := by decide +kernel
theorem dX2_become_33 : decode cX2_become 33 = .ok (.aload_n 0, 1) := by decide +kernel
theorem dX2_become_34 : decode cX2_become 34 = .ok (.getfield 37, 3) := by decide +kernel
theorem dX2_become_37 : decode cX2_become 37 = .ok (.aload_n 1, 1) := by decide +kernel
theorem dX2_become_38 : decode cX2_become 38 = .ok (.getfield 37, 3) := by decide +kernel
theorem dX2_become_41 : decode cX2_become 41 = .ok (.invokevirtual 85, 3) := by decide +kernel
theorem dX2_become_44 : decode cX2_become 44 = .ok (.aload_n 1, 1) := by decide +kernel
theorem dX2_become_45 : decode cX2_become 45 = .ok (.getfield 41, 3) := by decide +kernel
theorem dX2_become_48 : decode cX2_become 48 = .ok (.aload_n 0, 1) := by decide +kernel
theorem dX2_become_49 : decode cX2_become 49 = .ok (.getfield 41, 3) := by decide +kernel
theorem dX2_become_52 : decode cX2_become 52 = .ok (.invokestatic 88, 3) := by decide +kernel
theorem dX2_become_55 : decode cX2_become 55 = .ok (.aload_n 1, 1) := by decide +kernel
theorem dX2_become_56 : decode cX2_become 56 = .ok (.getfield 45, 3) := by decide +kernel
theorem dX2_become_59 : decode cX2_become 59 = .ok (.aload_n 0, 1) := by decide +kernel
theorem dX2_become_60 : decode cX2_become 60 = .ok (.getfield 45, 3) := by decide +kernel
theorem dX2_become_63 : decode cX2_become 63 = .ok (.invokestatic 88, 3) := by decide +kernel
theorem dX2_become_66 : decode cX2_become 66 = .ok (.aload_n 0, 1) := by decide +kernel
theorem dX2_become_67 : decode cX2_become 67 = .ok (.aload_n 1, 1) := by decide +kernel
theorem dX2_become_68 : decode cX2_become 68 = .ok (.getfield 48, 3) := by decide +kernel
theorem dX2_become_71 : decode cX2_become 71 = .ok (.putfield 48, 3) := by decide +kernel
theorem dX2_become_74 : decode cX2_become 74 = .ok (.aload_n 0, 1) := by decide +kernel
theorem dX2_become_75 : decode cX2_become 75 = .ok (.aload_n 1, 1) := by decide +kernel
theorem dX2_become_76 : decode cX2_become 76 = .ok (.getfield 52, 3) := by decide +kernel
theorem dX2_become_79 : decode cX2_become 79 = .ok (.putfield 52, 3) := by decide +kernel
theorem dX2_become_82 : decode cX2_become 82 = .ok (.return_, 1) := by decide +kernel
set_option maxRecDepth 20000 in
theorem ggX2_setting_X7_isSetting : GoodIn wsX2_setting wsX7_isSetting := goodIn_r _ [4] (by decide +kernel) (by decide +kernel)
set_option maxRecDepth 20000 in
theorem gX2_setting_X7_isSetting_n92 : GoodIn wsX2_setting (wsX7_isSetting) := ggX2_setting_X7_isSetting
theorem dX2_setting_0 : decode cX2_setting 0 = .ok (.iload_n 1, 1) := by decide +kernel
theorem dX2_setting_1 : decode cX2_setting 1 = .ok (.invokestatic 92, 3) := by decide +kernel
theorem dX2_setting_4 : decode cX2_setting 4 = .ok (.ifCond .eq 12, 3) := by decide +kernel
theorem dX2_setting_7 : decode cX2_setting 7 = .ok (.aload_n 0, 1) := by decide +kernel
theorem dX2_setting_8 : decode cX2_setting 8 = .ok (.getfield 41, 3) := by decide +kernel
theorem dX2_setting_11 : decode cX2_setting 11 = .ok (.iload_n 1, 1) := by decide +kernel
theorem dX2_setting_12 : decode cX2_setting 12 = .ok (.iaload, 1) := by decide +kernel
theorem dX2_setting_13 : decode cX2_setting 13 = .ok (.goto 4, 3) := by decide +kernel
theorem dX2_setting_16 : decode cX2_setting 16 = .ok (.iconst 0, 1) := by decide +kernel
theorem dX2_setting_17 : decode cX2_setting 17 = .ok (.ireturn, 1) := by decide +kernel
set_option maxRecDepth 20000 in
theorem ggX2_putSetting_X7_isSetting : GoodIn wsX2_putSetting wsX7_isSetting := goodIn_r _ [4] (by decide +kernel) (by decide +kernel)
set_option maxRecDepth 20000 in
theorem gX2_putSetting_X7_isSetting_n92 : GoodIn wsX2_putSetting (wsX7_isSetting) := ggX2_putSetting_X7_isSetting
theorem dX2_putSetting_0 : decode cX2_putSetting 0 = .ok (.iload_n 1, 1) := by decide +kernel
theorem dX2_putSetting_1 : decode cX2_putSetting 1 = .ok (.invokestatic 92, 3) := by decide +kernel
theorem dX2_putSetting_4 : decode cX2_putSetting 4 = .ok (.ifCond .eq 10, 3) := by decide +kernel
theorem dX2_putSetting_7 : decode cX2_putSetting 7 = .ok (.aload_n 0, 1) := by decide +kernel
theorem dX2_putSetting_8 : decode cX2_putSetting 8 = .ok (.getfield 41, 3) := by decide +kernel
theorem dX2_putSetting_11 : decode cX2_putSetting 11 = .ok (.iload_n 1, 1) := by decide +kernel
theorem dX2_putSetting_12 : decode cX2_putSetting 12 = .ok (.iload_n 2, 1) := by decide +kernel
theorem dX2_putSetting_13 : decode cX2_putSetting 13 = .ok (.iastore, 1) := by decide +kernel
theorem dX2_putSetting_14 : decode cX2_putSetting 14 = .ok (.return_, 1) := by decide +kernel
set_option maxRecDepth 20000 in
theorem ggX2_changeSetting_X2_putSetting : GoodIn wsX2_changeSetting wsX2_putSetting := goodIn_r _ [5, 6, 7, 8, 9, 114, 115, 116, 117, 118, 119, 120, 121] (by decide +kernel) (by decide +kernel)
set_option maxRecDepth 20000 in
theorem gX2_changeSetting_X2_putSetting : GoodIn wsX2_changeSetting (wsV RX2 72 RX2 yX2_putSetting wsX2_putSetting) := goodIn_app (goodIn_of _ (by decide +kernel)) ggX2_changeSetting_X2_putSetting
set_option maxRecDepth 20000 in
theorem ggX2_changeSetting_X2_mergeTooMany : GoodIn wsX2_changeSetting wsX2_mergeTooMany := goodIn_r _ [13, 14, 15, 16, 17, 18, 4, 19, 6, 7, 8, 9, 20, 21, 22, 23, 24, 25, 26, 27, 28, 29, 30, 31, 32, 33, 34, 35, 36, 37, 38, 39, 40, 41, 42, 43, 44, 45, 46, 47, 48, 49, 50, 51, 52, 53, 54, 55, 56, 57, 58, 59, 60, 61, 62, 63, 64, 65, 66, 67, 68, 69, 70, 71, 72, 73, 74, 75, 76, 77, 78, 79, 80, 81, 82, 83, 84, 85, 86, 87, 88, 89, 90, 91, 92, 93, 94, 95, 96, 97, 98, 99, 100, 101, 102, 103, 104, 105, 106, 107, 108, 109, 110, 111, 112, 113, 114, 115, 116, 117, 118, 119, 120, 121, 122, 123, 124, 125, 126, 127, 128, 129, 130, 131, 132, 133] (by decide +kernel) (by decide +kernel)
set_option maxRecDepth 20000 in
theorem gX2_changeSetting_X2_mergeTooMany : GoodIn wsX2_changeSetting (wsV RX2 96 RX2 yX2_mergeTooMany wsX2_mergeTooMany) := goodIn_app (goodIn_of _ (by decide +kernel)) ggX2_changeSetting_X2_mergeTooMany
theorem dX2_changeSetting_0 : decode cX2_changeSetting 0 = .ok (.aload_n 0, 1) := by decide +kernel
theorem dX2_changeSetting_1 : decode cX2_changeSetting 1 = .ok (.iload_n 1, 1) := by decide +kernel
theorem dX2_changeSetting_2 : decode cX2_changeSetting 2 = .ok (.iload_n 2, 1) := by decide +kernel
theorem dX2_changeSetting_3 : decode cX2_changeSetting 3 = .ok (.invokevirtual 72, 3) := by decide +kernel
theorem dX2_changeSetting_6 : decode cX2_changeSetting 6 = .ok (.aload_n 0, 1) := by decide +kernel
theorem dX2_changeSetting_7 : decode cX2_changeSetting 7 = .ok (.invokevirtual 96, 3) := by decide +kernel
theorem dX2_changeSetting_10 : decode cX2_changeSetting 10 = .ok (.return_, 1) := by decide +kernel
theorem dX2_pendingAt_0 : decode cX2_pendingAt 0 = .ok (.iload_n 1, 1) := by decide +kernel
theorem dX2_pendingAt_1 : decode cX2_pendingAt 1 = .ok (.ifCond .lt 26, 3) := by decide +kernel
theorem dX2_pendingAt_4 : decode cX2_pendingAt 4 = .ok (.iload_n 1, 1) := by decide +kernel
theorem dX2_pendingAt_5 : decode cX2_pendingAt 5 = .ok (.aload_n 0, 1) := by decide +kernel
theorem dX2_pendingAt_6 : decode cX2_pendingAt 6 = .ok (.getfield 48, 3) := by decide +kernel
theorem dX2_pendingAt_9 : decode cX2_pendingAt 9 = .ok (.if_icmp .ge 18, 3) := by decide +kernel
theorem dX2_pendingAt_12 : decode cX2_pendingAt 12 = .ok (.iload_n 1, 1) := by decide +kernel
theorem dX2_pendingAt_13 : decode cX2_pendingAt 13 = .ok (.bipush 31, 2) := by decide +kernel
theorem dX2_pendingAt_15 : decode cX2_pendingAt 15 = .ok (.if_icmp .ge 12, 3) := by decide +kernel
theorem dX2_pendingAt_18 : decode cX2_pendingAt 18 = .ok (.aload_n 0, 1) := by decide +kernel
theorem dX2_pendingAt_19 : decode cX2_pendingAt 19 = .ok (.getfield 45, 3) := by decide +kernel
theorem dX2_pendingAt_22 : decode cX2_pendingAt 22 = .ok (.iload_n 1, 1) := by decide +kernel
theorem dX2_pendingAt_23 : decode cX2_pendingAt 23 = .ok (.iaload, 1) := by decide +kernel
theorem dX2_pendingAt_24 : decode cX2_pendingAt 24 = .ok (.goto 4, 3) := by decide +kernel
theorem dX2_pendingAt_27 : decode cX2_pendingAt 27 = .ok (.iconst (-1), 1) := by decide +kernel
theorem dX2_pendingAt_28 : decode cX2_pendingAt 28 = .ok (.ireturn, 1) := by decide +kernel
set_option maxRecDepth 20000 in
theorem ggX2_insertRow_X6_add : GoodIn wsX2_insertRow wsX6_add := goodIn_r _ [6, 7, 8, 9, 10, 128, 129, 130, 131] (by decide +kernel) (by decide +kernel)
set_option maxRecDepth 20000 in
theorem gX2_insertRow_X6_add : GoodIn wsX2_insertRow (wsV RX2 99 RX6 yX6_add wsX6_add) := goodIn_app (goodIn_of _ (by decide +kernel)) ggX2_insertRow_X6_add
set_option maxRecDepth 20000 in
theorem ggX2_insertRow_X2_addPending : GoodIn wsX2_insertRow wsX2_addPending := goodIn_r _ [15, 16, 17, 120, 121, 122, 123, 124, 125, 126, 127] (by decide +kernel) (by decide +kernel)
set_option maxRecDepth 20000 in
theorem gX2_insertRow_X2_addPending : GoodIn wsX2_insertRow (wsV RX2 103 RX2 yX2_addPending wsX2_addPending) := goodIn_app (goodIn_of _ (by decide +kernel)) ggX2_insertRow_X2_addPending
set_option maxRecDepth 20000 in
theorem ggX2_insertRow_X2_mergeTooMany : GoodIn wsX2_insertRow wsX2_mergeTooMany := goodIn_r _ [21, 16, 22, 23, 24, 25, 14, 26, 27, 28, 29, 30, 31, 32, 33, 34, 17, 35, 36, 37, 38, 39, 40, 41, 42, 43, 44, 45, 46, 47, 48, 1, 49, 50, 51, 5, 52, 8, 53, 54, 55, 56, 57, 58, 59, 60, 61, 62, 63, 10, 64, 65, 66, 67, 68, 69, 70, 71, 72, 73, 74, 75, 76, 77, 78, 79, 80, 81, 82, 83, 84, 85, 86, 87, 88, 89, 90, 91, 92, 93, 94, 95, 96, 97, 98, 99, 100, 101, 102, 103, 104, 105, 106, 107, 108, 109, 110, 111, 112, 113, 114, 115, 116, 117, 118, 119, 120, 121, 122, 123, 124, 125, 126, 127, 132, 133, 134, 135, 136, 137, 138, 139, 128, 129, 130, 131] (by decide +kernel) (by decide +kernel)
set_option maxRecDepth 20000 in
theorem gX2_insertRow_X2_mergeTooMany : GoodIn wsX2_insertRow (wsV RX2 96 RX2 yX2_mergeTooMany wsX2_mergeTooMany) := goodIn_app (goodIn_of _ (by decide +kernel)) ggX2_insertRow_X2_mergeTooMany
theorem dX2_insertRow_0 : decode cX2_insertRow 0 = .ok (.aload_n 0, 1) := by decide +kernel
theorem dX2_insertRow_1 : decode cX2_insertRow 1 = .ok (.getfield 12, 3) := by decide +kernel
theorem dX2_insertRow_4 : decode cX2_insertRow 4 = .ok (.iload_n 1, 1) := by decide +kernel
theorem dX2_insertRow_5 : decode cX2_insertRow 5 = .ok (.iload_n 2, 1) := by decide +kernel
theorem dX2_insertRow_6 : decode cX2_insertRow 6 = .ok (.iconst 1, 1) := by decide +kernel
theorem dX2_insertRow_7 : decode cX2_insertRow 7 = .ok (.invokevirtual 99, 3) := by decide +kernel
theorem dX2_insertRow_10 : decode cX2_insertRow 10 = .ok (.istore_n 3, 1) := by decide +kernel
theorem dX2_insertRow_11 : decode cX2_insertRow 11 = .ok (.aload_n 0, 1) := by decide +kernel
theorem dX2_insertRow_12 : decode cX2_insertRow 12 = .ok (.iload_n 3, 1) := by decide +kernel
theorem dX2_insertRow_13 : decode cX2_insertRow 13 = .ok (.invokevirtual 103, 3) := by decide +kernel
theorem dX2_insertRow_16 : decode cX2_insertRow 16 = .ok (.aload_n 0, 1) := by decide +kernel
theorem dX2_insertRow_17 : decode cX2_insertRow 17 = .ok (.invokevirtual 96, 3) := by decide +kernel
theorem dX2_insertRow_20 : decode cX2_insertRow 20 = .ok (.iload_n 3, 1) := by decide +kernel
theorem dX2_insertRow_21 : decode cX2_insertRow 21 = .ok (.ireturn, 1) := by decide +kernel
set_option maxRecDepth 20000 in
theorem ggX2_deleteRow_X6_stateOf : GoodIn wsX2_deleteRow wsX6_stateOf := goodIn_r _ [6, 7, 122, 123, 124, 125] (by decide +kernel) (by decide +kernel)
set_option maxRecDepth 20000 in
theorem gX2_deleteRow_X6_stateOf : GoodIn wsX2_deleteRow (wsV RX2 107 RX6 yX6_stateOf wsX6_stateOf) := goodIn_app (goodIn_of _ (by decide +kernel)) ggX2_deleteRow_X6_stateOf
set_option maxRecDepth 20000 in
theorem ggX2_deleteRow_X6_putState : GoodIn wsX2_deleteRow wsX6_putState := goodIn_r _ [11, 7, 122, 123, 124, 125] (by decide +kernel) (by decide +kernel)
set_option maxRecDepth 20000 in
theorem gX2_deleteRow_X6_putState : GoodIn wsX2_deleteRow (wsV RX2 110 RX6 yX6_putState wsX6_putState) := goodIn_app (goodIn_of _ (by decide +kernel)) ggX2_deleteRow_X6_putState
set_option maxRecDepth 20000 in
theorem ggX2_deleteRow_X2_removePending : GoodIn wsX2_deleteRow wsX2_removePending := goodIn_r _ [16, 17, 18, 19, 20, 21, 22, 114, 115, 116, 117, 118, 119, 120, 121] (by decide +kernel) (by decide +kernel)
set_option maxRecDepth 20000 in
theorem gX2_deleteRow_X2_removePending : GoodIn wsX2_deleteRow (wsV RX2 113 RX2 yX2_removePending wsX2_removePending) := goodIn_app (goodIn_of _ (by decide +kernel)) ggX2_deleteRow_X2_removePending
set_option maxRecDepth 20000 in
theorem ggX2_deleteRow_X2_addPending : GoodIn wsX2_deleteRow wsX2_addPending := goodIn_r _ [26, 17, 22, 114, 115, 116, 117, 118, 119, 120, 121] (by decide +kernel) (by decide +kernel)
set_option maxRecDepth 20000 in
theorem gX2_deleteRow_X2_addPending : GoodIn wsX2_deleteRow (wsV RX2 103 RX2 yX2_addPending wsX2_addPending) := goodIn_app (goodIn_of _ (by decide +kernel)) ggX2_deleteRow_X2_addPending
set_option maxRecDepth 20000 in
theorem ggX2_deleteRow_X2_mergeTooMany : GoodIn wsX2_deleteRow wsX2_mergeTooMany := goodIn_r _ [30, 17, 31, 32, 33, 34, 15, 35, 36, 37, 38, 39, 40, 41, 42, 43, 22, 12, 13, 14, 16, 18, 19, 20, 21, 44, 45, 46, 47, 48, 49, 1, 50, 51, 52, 5, 53, 54, 55, 56, 57, 58, 59, 60, 61, 2, 3, 4, 6, 7, 62, 63, 64, 65, 66, 67, 68, 69, 70, 71, 72, 73, 74, 75, 76, 77, 78, 79, 80, 81, 82, 83, 84, 85, 86, 87, 88, 89, 90, 91, 92, 93, 94, 95, 96, 97, 98, 99, 100, 101, 102, 103, 104, 105, 8, 9, 10, 11, 106, 107, 108, 109, 110, 111, 112, 113, 114, 115, 116, 117, 118, 119, 120, 121, 126, 127, 128, 129, 130, 131, 132, 133, 122, 123, 124, 125] (by decide +kernel) (by decide +kernel)
set_option maxRecDepth 20000 in
theorem gX2_deleteRow_X2_mergeTooMany : GoodIn wsX2_deleteRow (wsV RX2 96 RX2 yX2_mergeTooMany wsX2_mergeTooMany) := goodIn_app (goodIn_of _ (by decide +kernel)) ggX2_deleteRow_X2_mergeTooMany
theorem dX2_deleteRow_0 : decode cX2_deleteRow 0 = .ok (.aload_n 0, 1) := by decide +kernel
theorem dX2_deleteRow_1 : decode cX2_deleteRow 1 = .ok (.getfield 12, 3) := by decide +kernel
theorem dX2_deleteRow_4 : decode cX2_deleteRow 4 = .ok (.iload_n 1, 1) := by decide +kernel
theorem dX2_deleteRow_5 : decode cX2_deleteRow 5 = .ok (.invokevirtual 107, 3) := by decide +kernel
theorem dX2_deleteRow_8 : decode cX2_deleteRow 8 = .ok (.iconst 1, 1) := by decide +kernel
theorem dX2_deleteRow_9 : decode cX2_deleteRow 9 = .ok (.if_icmp .ne 18, 3) := by decide +kernel
theorem dX2_deleteRow_12 : decode cX2_deleteRow 12 = .ok (.aload_n 0, 1) := by decide +kernel
theorem dX2_deleteRow_13 : decode cX2_deleteRow 13 = .ok (.getfield 12, 3) := by decide +kernel
theorem dX2_deleteRow_16 : decode cX2_deleteRow 16 = .ok (.iload_n 1, 1) := by decide +kernel
theorem dX2_deleteRow_17 : decode cX2_deleteRow 17 = .ok (.iconst 3, 1) := by decide +kernel
theorem dX2_deleteRow_18 : decode cX2_deleteRow 18 = .ok (.invokevirtual 110, 3) := by decide +kernel
theorem dX2_deleteRow_21 : decode cX2_deleteRow 21 = .ok (.aload_n 0, 1) := by decide +kernel
theorem dX2_deleteRow_22 : decode cX2_deleteRow 22 = .ok (.iload_n 1, 1) := by decide +kernel
theorem dX2_deleteRow_23 : decode cX2_deleteRow 23 = .ok (.invokevirtual 113, 3) := by decide +kernel
theorem dX2_deleteRow_26 : decode cX2_deleteRow 26 = .ok (.return_, 1) := by decide +kernel
theorem dX2_deleteRow_27 : decode cX2_deleteRow 27 = .ok (.aload_n 0, 1) := by decide +kernel
theorem dX2_deleteRow_28 : decode cX2_deleteRow 28 = .ok (.getfield 12, 3) := by decide +kernel
theorem dX2_deleteRow_31 : decode cX2_deleteRow 31 = .ok (.iload_n 1, 1) := by decide +kernel
theorem dX2_deleteRow_32 : decode cX2_deleteRow 32 = .ok (.iconst 2, 1) := by decide +kernel
theorem dX2_deleteRow_33 : decode cX2_deleteRow 33 = .ok (.invokevirtual 110, 3) := by decide +kernel
theorem dX2_deleteRow_36 : decode cX2_deleteRow 36 = .ok (.aload_n 0, 1) := by decide +kernel
theorem dX2_deleteRow_37 : decode cX2_deleteRow 37 = .ok (.iload_n 1, 1) := by decide +kernel
theorem dX2_deleteRow_38 : decode cX2_deleteRow 38 = .ok (.invokevirtual 103, 3) := by decide +kernel
theorem dX2_deleteRow_41 : decode cX2_deleteRow 41 = .ok (.aload_n 0, 1) := by decide +kernel
theorem dX2_deleteRow_42 : decode cX2_deleteRow 42 = .ok (.invokevirtual 96, 3) := by decide +kernel
theorem dX2_deleteRow_45 : decode cX2_deleteRow 45 = .ok (.return_, 1) := by decide +kernel
set_option maxRecDepth 20000 in
theorem ggX2_mergeEverything_X2_mergeSpan : GoodIn wsX2_mergeEverything wsX2_mergeSpan := goodIn_r _ [6, 7, 8, 9, 10, 11, 12, 13, 14, 15, 16, 17, 18, 19, 20, 21, 22, 23, 24, 25, 26, 5, 27, 28, 29, 30, 31, 32, 33, 34, 35, 36, 37, 38, 39, 40, 41, 42, 43, 44, 45, 46, 47, 48, 49, 50, 51, 52, 53, 54, 55, 56, 57, 58, 59, 60, 61, 62, 63, 64, 65, 66, 67, 68, 69, 70, 71, 72, 73, 74, 75, 76, 77, 78, 79, 80, 81, 82, 83, 84, 85, 86, 87, 88, 89, 90, 91, 92, 93, 94, 95, 96, 97, 98, 99, 100, 101, 102, 103, 104, 105, 106, 107, 108, 109, 110, 111, 112, 113, 114, 115, 116, 117] (by decide +kernel) (by decide +kernel)
set_option maxRecDepth 20000 in
theorem gX2_mergeEverything_X2_mergeSpan : GoodIn wsX2_mergeEverything (wsV RX2 116 RX2 yX2_mergeSpan wsX2_mergeSpan) := goodIn_app (goodIn_of _ (by decide +kernel)) ggX2_mergeEverything_X2_mergeSpan
theorem dX2_mergeEverything_0 : decode cX2_mergeEverything 0 = .ok (.aload_n 0, 1) := by decide +kernel
theorem dX2_mergeEverything_1 : decode cX2_mergeEverything 1 = .ok (.iconst 0, 1) := by decide +kernel
theorem dX2_mergeEverything_2 : decode cX2_mergeEverything 2 = .ok (.sipush 10000, 3) := by decide +kernel
theorem dX2_mergeEverything_5 : decode cX2_mergeEverything 5 = .ok (.invokevirtual 116, 3) := by decide +kernel
theorem dX2_mergeEverything_8 : decode cX2_mergeEverything 8 = .ok (.istore_n 1, 1) := by decide +kernel
theorem dX2_mergeEverything_9 : decode cX2_mergeEverything 9 = .ok (.aload_n 0, 1) := by decide +kernel
theorem dX2_mergeEverything_10 : decode cX2_mergeEverything 10 = .ok (.dup, 1) := by decide +kernel
theorem dX2_mergeEverything_11 : decode cX2_mergeEverything 11 = .ok (.getfield 52, 3) := by decide +kernel
theorem dX2_mergeEverything_14 : decode cX2_mergeEverything 14 = .ok (.iload_n 1, 1) := by decide +kernel
theorem dX2_mergeEverything_15 : decode cX2_mergeEverything 15 = .ok (.iadd, 1) := by decide +kernel
theorem dX2_mergeEverything_16 : decode cX2_mergeEverything 16 = .ok (.putfield 52, 3) := by decide +kernel
theorem dX2_mergeEverything_19 : decode cX2_mergeEverything 19 = .ok (.iload_n 1, 1) := by decide +kernel
theorem dX2_mergeEverything_20 : decode cX2_mergeEverything 20 = .ok (.ireturn, 1) := by decide +kernel
set_option maxRecDepth 20000 in
theorem ggX2_ask_X0_clear : GoodIn wsX2_ask wsX0_clear := goodIn_r _ [11, 12, 232, 233] (by decide +kernel) (by decide +kernel)
set_option maxRecDepth 20000 in
theorem gX2_ask_X0_clear : GoodIn wsX2_ask (wsV RX2 62 RX0 yX0_clear wsX0_clear) := goodIn_app (goodIn_of _ (by decide +kernel)) ggX2_ask_X0_clear
set_option maxRecDepth 20000 in
theorem ggX2_ask_X2_mergeSpan : GoodIn wsX2_ask wsX2_mergeSpan := goodIn_r _ [17, 3, 18, 19, 20, 21, 22, 23, 24, 25, 26, 27, 28, 29, 30, 31, 32, 33, 34, 35, 36, 16, 37, 4, 38, 39, 40, 41, 42, 43, 44, 45, 46, 47, 48, 49, 50, 51, 52, 53, 54, 55, 56, 57, 58, 59, 60, 61, 62, 63, 64, 65, 66, 67, 68, 69, 70, 71, 72, 73, 74, 75, 76, 77, 78, 79, 80, 81, 82, 83, 84, 85, 86, 87, 88, 89, 90, 91, 92, 93, 94, 95, 96, 97, 98, 99, 100, 101, 102, 103, 104, 105, 106, 224, 225, 226, 227, 228, 229, 230, 231, 234, 235, 236, 237, 238, 239, 240, 241, 242, 243, 244, 245] (by decide +kernel) (by decide +kernel)
set_option maxRecDepth 20000 in
theorem gX2_ask_X2_mergeSpan : GoodIn wsX2_ask (wsV RX2 116 RX2 yX2_mergeSpan wsX2_mergeSpan) := goodIn_app (goodIn_of _ (by decide +kernel)) ggX2_ask_X2_mergeSpan
set_option maxRecDepth 20000 in
theorem ggX2_ask_X0_putNumber : GoodIn wsX2_ask wsX0_putNumber := goodIn_r _ [110, 12, 232, 233] (by decide +kernel) (by decide +kernel)
set_option maxRecDepth 20000 in
theorem gX2_ask_X0_putNumber : GoodIn wsX2_ask (wsV RX2 120 RX0 yX0_putNumber wsX0_putNumber) := goodIn_app (goodIn_of _ (by decide +kernel)) ggX2_ask_X0_putNumber
set_option maxRecDepth 20000 in
theorem ggX2_ask_X3_divideAt : GoodIn wsX2_ask wsX3_divideAt := goodIn_r _ [114, 45, 115, 46, 69, 64, 41, 42, 43, 44, 70, 71, 72, 73, 116, 117, 118, 119, 120, 121, 122, 123, 65, 66, 67, 68, 57, 74, 75, 76, 77, 78, 124, 125, 126, 127, 128, 129, 130, 131, 132, 133, 134, 56, 79, 80, 81, 82, 58, 63, 30, 31, 27, 32, 33, 135, 136, 137, 138, 59, 60, 61, 62, 139, 140, 141, 142, 91, 19, 20, 21, 92, 93, 94, 238, 239, 240, 241, 242, 243, 244, 245, 234, 235, 236, 237] (by decide +kernel) (by decide +kernel)
set_option maxRecDepth 20000 in
theorem gX2_ask_X3_divideAt : GoodIn wsX2_ask (wsV RX2 123 RX3 yX3_divideAt wsX3_divideAt) := goodIn_app (goodIn_of _ (by decide +kernel)) ggX2_ask_X3_divideAt
set_option maxRecDepth 20000 in
theorem ggX2_ask_X3_pieceFor : GoodIn wsX2_ask wsX3_pieceFor := goodIn_r _ [44, 45, 46, 238, 239, 240, 241, 242, 243, 244, 245] (by decide +kernel) (by decide +kernel)
set_option maxRecDepth 20000 in
theorem gX2_ask_X3_pieceFor : GoodIn wsX2_ask (wsV RX2 126 RX3 yX3_pieceFor wsX3_pieceFor) := goodIn_app (goodIn_of _ (by decide +kernel)) ggX2_ask_X3_pieceFor
set_option maxRecDepth 20000 in
theorem ggX2_ask_X2_readPieces : GoodIn wsX2_ask wsX2_readPieces := goodIn_r _ [146, 1, 4, 23, 107, 108, 109, 10, 110, 12, 147, 148, 149, 43, 150, 115, 70, 71, 72, 73, 45, 151, 66, 67, 68, 69, 57, 152, 80, 81, 82, 58, 39, 30, 31, 27, 32, 33, 153, 154, 155, 156, 157, 158, 159, 160, 161, 162, 19, 20, 21, 163, 93, 94, 224, 225, 226, 227, 228, 229, 230, 231, 232, 233, 238, 239, 240, 241, 242, 243, 244, 245, 234, 235, 236, 237] (by decide +kernel) (by decide +kernel)
set_option maxRecDepth 20000 in
theorem gX2_ask_X2_readPieces : GoodIn wsX2_ask (wsV RX2 129 RX2 yX2_readPieces wsX2_readPieces) := goodIn_app (goodIn_of _ (by decide +kernel)) ggX2_ask_X2_readPieces
set_option maxRecDepth 20000 in
theorem ggX2_ask_X0_numberAt : GoodIn wsX2_ask wsX0_numberAt := goodIn_r _ [167, 12, 232, 233] (by decide +kernel) (by decide +kernel)
set_option maxRecDepth 20000 in
theorem gX2_ask_X0_numberAt : GoodIn wsX2_ask (wsV RX2 132 RX0 yX0_numberAt wsX0_numberAt) := goodIn_app (goodIn_of _ (by decide +kernel)) ggX2_ask_X0_numberAt
set_option maxRecDepth 20000 in
theorem ggX2_ask_X2_sortHotPieces : GoodIn wsX2_ask wsX2_sortHotPieces := goodIn_r _ [171, 4, 1, 172, 173, 174, 16, 175, 176, 121, 122, 43, 123, 65, 66, 67, 68, 69, 57, 70, 71, 72, 73, 45, 177, 75, 76, 77, 78, 178, 179, 180, 181, 115, 182, 183, 184, 185, 186, 187, 125, 188, 124, 126, 189, 190, 191, 192, 193, 194, 195, 196, 56, 79, 80, 81, 82, 58, 83, 84, 85, 27, 86, 29, 30, 31, 32, 33, 135, 136, 137, 138, 59, 60, 61, 62, 107, 108, 109, 10, 110, 12, 224, 225, 226, 227, 228, 229, 230, 231, 238, 239, 240, 241, 242, 243, 244, 245, 234, 235, 236, 237, 232, 233] (by decide +kernel) (by decide +kernel)
set_option maxRecDepth 20000 in
theorem gX2_ask_X2_sortHotPieces : GoodIn wsX2_ask (wsV RX2 135 RX2 yX2_sortHotPieces wsX2_sortHotPieces) := goodIn_app (goodIn_of _ (by decide +kernel)) ggX2_ask_X2_sortHotPieces
set_option maxRecDepth 20000 in
theorem ggX2_ask_X2_dropBounds : GoodIn wsX2_ask wsX2_dropBounds := goodIn_r _ [200, 4, 38, 201, 93, 20, 94, 1, 182, 183, 184, 16, 185, 186, 187, 125, 188, 202, 203, 204, 43, 205, 45, 206, 207, 208, 209, 210, 179, 180, 181, 115, 70, 71, 72, 73, 211, 212, 213, 214, 78, 139, 140, 141, 142, 91, 19, 21, 92, 46, 69, 107, 108, 109, 10, 110, 12, 224, 225, 226, 227, 228, 229, 230, 231, 238, 239, 240, 241, 242, 243, 244, 245, 232, 233] (by decide +kernel) (by decide +kernel)
set_option maxRecDepth 20000 in
theorem gX2_ask_X2_dropBounds : GoodIn wsX2_ask (wsV RX2 138 RX2 yX2_dropBounds wsX2_dropBounds) := goodIn_app (goodIn_of _ (by decide +kernel)) ggX2_ask_X2_dropBounds
set_option maxRecDepth 20000 in
theorem ggX2_ask_X4_add : GoodIn wsX2_ask wsX4_add := goodIn_r _ [219, 220, 221, 60, 61, 62, 222, 223, 19, 20, 21, 246, 247] (by decide +kernel) (by decide +kernel)
set_option maxRecDepth 20000 in
theorem gX2_ask_X4_add : GoodIn wsX2_ask (wsV RX2 141 RX4 yX4_add wsX4_add) := goodIn_app (goodIn_of _ (by decide +kernel)) ggX2_ask_X4_add
theorem dX2_ask_0 : decode cX2_ask 0 = .ok (.aload_n 0, 1) := by decide +kernel
theorem dX2_ask_1 : decode cX2_ask 1 = .ok (.getfield 30, 3) := by decide +kernel
theorem dX2_ask_4 : decode cX2_ask 4 = .ok (.invokevirtual 62, 3) := by decide +kernel
theorem dX2_ask_7 : decode cX2_ask 7 = .ok (.aload_n 0, 1) := by decide +kernel
theorem dX2_ask_8 : decode cX2_ask 8 = .ok (.getfield 30, 3) := by decide +kernel
theorem dX2_ask_11 : decode cX2_ask 11 = .ok (.iconst 1, 1) := by decide +kernel
theorem dX2_ask_12 : decode cX2_ask 12 = .ok (.putfield 63, 3) := by decide +kernel
theorem dX2_ask_15 : decode cX2_ask 15 = .ok (.aload_n 0, 1) := by decide +kernel
theorem dX2_ask_16 : decode cX2_ask 16 = .ok (.getfield 48, 3) := by decide +kernel
theorem dX2_ask_19 : decode cX2_ask 19 = .ok (.istore_n 3, 1) := by decide +kernel
theorem dX2_ask_20 : decode cX2_ask 20 = .ok (.aload_n 0, 1) := by decide +kernel
theorem dX2_ask_21 : decode cX2_ask 21 = .ok (.iload_n 1, 1) := by decide +kernel
theorem dX2_ask_22 : decode cX2_ask 22 = .ok (.iload_n 2, 1) := by decide +kernel
theorem dX2_ask_23 : decode cX2_ask 23 = .ok (.invokevirtual 116, 3) := by decide +kernel
theorem dX2_ask_26 : decode cX2_ask 26 = .ok (.istore 4, 2) := by decide +kernel
theorem dX2_ask_28 : decode cX2_ask 28 = .ok (.aload_n 0, 1) := by decide +kernel
theorem dX2_ask_29 : decode cX2_ask 29 = .ok (.getfield 30, 3) := by decide +kernel
theorem dX2_ask_32 : decode cX2_ask 32 = .ok (.iconst 5, 1) := by decide +kernel
theorem dX2_ask_33 : decode cX2_ask 33 = .ok (.iload_n 3, 1) := by decide +kernel
theorem dX2_ask_34 : decode cX2_ask 34 = .ok (.aload_n 0, 1) := by decide +kernel
theorem dX2_ask_35 : decode cX2_ask 35 = .ok (.getfield 48, 3) := by decide +kernel
theorem dX2_ask_38 : decode cX2_ask 38 = .ok (.isub, 1) := by decide +kernel
theorem dX2_ask_39 : decode cX2_ask 39 = .ok (.invokevirtual 120, 3) := by decide +kernel
theorem dX2_ask_42 : decode cX2_ask 42 = .ok (.iload 4, 2) := by decide +kernel
theorem dX2_ask_44 : decode cX2_ask 44 = .ok (.aload_n 0, 1) := by decide +kernel
theorem dX2_ask_45 : decode cX2_ask 45 = .ok (.getfield 23, 3) := by decide +kernel
theorem dX2_ask_48 : decode cX2_ask 48 = .ok (.iload_n 1, 1) := by decide +kernel
theorem dX2_ask_49 : decode cX2_ask 49 = .ok (.invokevirtual 123, 3) := by decide +kernel
theorem dX2_ask_52 : decode cX2_ask 52 = .ok (.iadd, 1) := by decide +kernel
theorem dX2_ask_53 : decode cX2_ask 53 = .ok (.istore 4, 2) := by decide +kernel
theorem dX2_ask_55 : decode cX2_ask 55 = .ok (.iload 4, 2) := by decide +kernel
theorem dX2_ask_57 : decode cX2_ask 57 = .ok (.aload_n 0, 1) := by decide +kernel
theorem dX2_ask_58 : decode cX2_ask 58 = .ok (.getfield 23, 3) := by decide +kernel
theorem dX2_ask_61 : decode cX2_ask 61 = .ok (.iload_n 2, 1) := by decide +kernel
theorem dX2_ask_62 : decode cX2_ask 62 = .ok (.invokevirtual 123, 3) := by decide +kernel
theorem dX2_ask_65 : decode cX2_ask 65 = .ok (.iadd, 1) := by decide +kernel
theorem dX2_ask_66 : decode cX2_ask 66 = .ok (.istore 4, 2) := by decide +kernel
theorem dX2_ask_68 : decode cX2_ask 68 = .ok (.aload_n 0, 1) := by decide +kernel
theorem dX2_ask_69 : decode cX2_ask 69 = .ok (.getfield 23, 3) := by decide +kernel
theorem dX2_ask_72 : decode cX2_ask 72 = .ok (.iload_n 1, 1) := by decide +kernel
theorem dX2_ask_73 : decode cX2_ask 73 = .ok (.invokevirtual 126, 3) := by decide +kernel
theorem dX2_ask_76 : decode cX2_ask 76 = .ok (.istore 5, 2) := by decide +kernel
theorem dX2_ask_78 : decode cX2_ask 78 = .ok (.aload_n 0, 1) := by decide +kernel
theorem dX2_ask_79 : decode cX2_ask 79 = .ok (.getfield 23, 3) := by decide +kernel
theorem dX2_ask_82 : decode cX2_ask 82 = .ok (.iload_n 2, 1) := by decide +kernel
theorem dX2_ask_83 : decode cX2_ask 83 = .ok (.invokevirtual 126, 3) := by decide +kernel
theorem dX2_ask_86 : decode cX2_ask 86 = .ok (.istore 6, 2) := by decide +kernel
theorem dX2_ask_88 : decode cX2_ask 88 = .ok (.aload_n 0, 1) := by decide +kernel
theorem dX2_ask_89 : decode cX2_ask 89 = .ok (.iload 5, 2) := by decide +kernel
theorem dX2_ask_91 : decode cX2_ask 91 = .ok (.iload 6, 2) := by decide +kernel
theorem dX2_ask_93 : decode cX2_ask 93 = .ok (.invokevirtual 129, 3) := by decide +kernel
theorem dX2_ask_96 : decode cX2_ask 96 = .ok (.iload 4, 2) := by decide +kernel
theorem dX2_ask_98 : decode cX2_ask 98 = .ok (.aload_n 0, 1) := by decide +kernel
theorem dX2_ask_99 : decode cX2_ask 99 = .ok (.getfield 30, 3) := by decide +kernel
theorem dX2_ask_102 : decode cX2_ask 102 = .ok (.iconst 0, 1) := by decide +kernel
theorem dX2_ask_103 : decode cX2_ask 103 = .ok (.invokevirtual 132, 3) := by decide +kernel
theorem dX2_ask_106 : decode cX2_ask 106 = .ok (.iadd, 1) := by decide +kernel
theorem dX2_ask_107 : decode cX2_ask 107 = .ok (.istore 4, 2) := by decide +kernel
theorem dX2_ask_109 : decode cX2_ask 109 = .ok (.iload 4, 2) := by decide +kernel
theorem dX2_ask_111 : decode cX2_ask 111 = .ok (.aload_n 0, 1) := by decide +kernel
theorem dX2_ask_112 : decode cX2_ask 112 = .ok (.iload 5, 2) := by decide +kernel
theorem dX2_ask_114 : decode cX2_ask 114 = .ok (.iload 6, 2) := by decide +kernel
theorem dX2_ask_116 : decode cX2_ask 116 = .ok (.invokevirtual 135, 3) := by decide +kernel
theorem dX2_ask_119 : decode cX2_ask 119 = .ok (.iadd, 1) := by decide +kernel
theorem dX2_ask_120 : decode cX2_ask 120 = .ok (.istore 4, 2) := by decide +kernel
theorem dX2_ask_122 : decode cX2_ask 122 = .ok (.aload_n 0, 1) := by decide +kernel
theorem dX2_ask_123 : decode cX2_ask 123 = .ok (.invokevirtual 138, 3) := by decide +kernel
theorem dX2_ask_126 : decode cX2_ask 126 = .ok (.aload_n 0, 1) := by decide +kernel
theorem dX2_ask_127 : decode cX2_ask 127 = .ok (.getfield 30, 3) := by decide +kernel
theorem dX2_ask_130 : decode cX2_ask 130 = .ok (.iconst 4, 1) := by decide +kernel
theorem dX2_ask_131 : decode cX2_ask 131 = .ok (.iload 4, 2) := by decide +kernel
theorem dX2_ask_133 : decode cX2_ask 133 = .ok (.invokevirtual 120, 3) := by decide +kernel
theorem dX2_ask_136 : decode cX2_ask 136 = .ok (.aload_n 0, 1) := by decide +kernel
theorem dX2_ask_137 : decode cX2_ask 137 = .ok (.getfield 37, 3) := by decide +kernel
theorem dX2_ask_140 : decode cX2_ask 140 = .ok (.iload_n 1, 1) := by decide +kernel
theorem dX2_ask_141 : decode cX2_ask 141 = .ok (.iload_n 2, 1) := by decide +kernel
theorem dX2_ask_142 : decode cX2_ask 142 = .ok (.aload_n 0, 1) := by decide +kernel
theorem dX2_ask_143 : decode cX2_ask 143 = .ok (.getfield 30, 3) := by decide +kernel
theorem dX2_ask_146 : decode cX2_ask 146 = .ok (.iconst 0, 1) := by decide +kernel
theorem dX2_ask_147 : decode cX2_ask 147 = .ok (.invokevirtual 132, 3) := by decide +kernel
theorem dX2_ask_150 : decode cX2_ask 150 = .ok (.iload 4, 2) := by decide +kernel
theorem dX2_ask_152 : decode cX2_ask 152 = .ok (.invokevirtual 141, 3) := by decide +kernel
theorem dX2_ask_155 : decode cX2_ask 155 = .ok (.aload_n 0, 1) := by decide +kernel
theorem dX2_ask_156 : decode cX2_ask 156 = .ok (.dup, 1) := by decide +kernel
theorem dX2_ask_157 : decode cX2_ask 157 = .ok (.getfield 52, 3) := by decide +kernel
theorem dX2_ask_160 : decode cX2_ask 160 = .ok (.iload 4, 2) := by decide +kernel
theorem dX2_ask_162 : decode cX2_ask 162 = .ok (.iadd, 1) := by decide +kernel
theorem dX2_ask_163 : decode cX2_ask 163 = .ok (.putfield 52, 3) := by decide +kernel
theorem dX2_ask_166 : decode cX2_ask 166 = .ok (.return_, 1) := by decide +kernel
set_option maxRecDepth 20000 in
theorem ggX2_readPieces_X0_putNumber : GoodIn wsX2_readPieces wsX0_putNumber := goodIn_r _ [8, 9, 62, 63] (by decide +kernel) (by decide +kernel)
set_option maxRecDepth 20000 in
theorem gX2_readPieces_X0_putNumber : GoodIn wsX2_readPieces (wsV RX2 120 RX0 yX0_putNumber wsX0_putNumber) := goodIn_app (goodIn_of _ (by decide +kernel)) ggX2_readPieces_X0_putNumber
set_option maxRecDepth 20000 in
theorem ggX2_readPieces_X3_warm : GoodIn wsX2_readPieces wsX3_warm := goodIn_r _ [14, 15, 16, 17, 18, 13, 19, 20, 64, 65, 66, 67, 68, 69, 70, 71] (by decide +kernel) (by decide +kernel)
set_option maxRecDepth 20000 in
theorem gX2_readPieces_X3_warm : GoodIn wsX2_readPieces (wsV RX2 144 RX3 yX3_warm wsX3_warm) := goodIn_app (goodIn_of _ (by decide +kernel)) ggX2_readPieces_X3_warm
set_option maxRecDepth 20000 in
theorem ggX2_readPieces_X3_startOf : GoodIn wsX2_readPieces wsX3_startOf := goodIn_r _ [24, 25, 26, 16, 17, 18, 13, 19, 20, 64, 65, 66, 67, 68, 69, 70, 71] (by decide +kernel) (by decide +kernel)
set_option maxRecDepth 20000 in
theorem gX2_readPieces_X3_startOf : GoodIn wsX2_readPieces (wsV RX2 147 RX3 yX3_startOf wsX3_startOf) := goodIn_app (goodIn_of _ (by decide +kernel)) ggX2_readPieces_X3_startOf
set_option maxRecDepth 20000 in
theorem ggX2_readPieces_X3_rowAt : GoodIn wsX2_readPieces wsX3_rowAt := goodIn_r _ [30, 26, 31, 64, 65, 66, 67, 68, 69, 70, 71] (by decide +kernel) (by decide +kernel)
set_option maxRecDepth 20000 in
theorem gX2_readPieces_X3_rowAt : GoodIn wsX2_readPieces (wsV RX2 150 RX3 yX3_rowAt wsX3_rowAt) := goodIn_app (goodIn_of _ (by decide +kernel)) ggX2_readPieces_X3_rowAt
set_option maxRecDepth 20000 in
theorem ggX2_readPieces_X6_keyOf : GoodIn wsX2_readPieces wsX6_keyOf := goodIn_r _ [36, 37, 72, 73, 74, 75] (by decide +kernel) (by decide +kernel)
set_option maxRecDepth 20000 in
theorem gX2_readPieces_X6_keyOf : GoodIn wsX2_readPieces (wsV RX2 153 RX6 yX6_keyOf wsX6_keyOf) := goodIn_app (goodIn_of _ (by decide +kernel)) ggX2_readPieces_X6_keyOf
set_option maxRecDepth 20000 in
theorem ggX2_readPieces_X6_valueOf : GoodIn wsX2_readPieces wsX6_valueOf := goodIn_r _ [41, 42, 72, 73, 74, 75] (by decide +kernel) (by decide +kernel)
set_option maxRecDepth 20000 in
theorem gX2_readPieces_X6_valueOf : GoodIn wsX2_readPieces (wsV RX2 156 RX6 yX6_valueOf wsX6_valueOf) := goodIn_app (goodIn_of _ (by decide +kernel)) ggX2_readPieces_X6_valueOf
set_option maxRecDepth 20000 in
theorem ggX2_readPieces_X0_take : GoodIn wsX2_readPieces wsX0_take := goodIn_r _ [46, 9, 47, 48, 49, 50, 51, 52, 53, 62, 63] (by decide +kernel) (by decide +kernel)
set_option maxRecDepth 20000 in
theorem gX2_readPieces_X0_take : GoodIn wsX2_readPieces (wsV RX2 159 RX0 yX0_take wsX0_take) := goodIn_app (goodIn_of _ (by decide +kernel)) ggX2_readPieces_X0_take
theorem dX2_readPieces_0 : decode cX2_readPieces 0 = .ok (.aload_n 0, 1) := by decide +kernel
theorem dX2_readPieces_1 : decode cX2_readPieces 1 = .ok (.getfield 30, 3) := by decide +kernel
theorem dX2_readPieces_4 : decode cX2_readPieces 4 = .ok (.bipush 6, 2) := by decide +kernel
theorem dX2_readPieces_6 : decode cX2_readPieces 6 = .ok (.iload_n 2, 1) := by decide +kernel
theorem dX2_readPieces_7 : decode cX2_readPieces 7 = .ok (.iload_n 1, 1) := by decide +kernel
theorem dX2_readPieces_8 : decode cX2_readPieces 8 = .ok (.isub, 1) := by decide +kernel
theorem dX2_readPieces_9 : decode cX2_readPieces 9 = .ok (.invokevirtual 120, 3) := by decide +kernel
theorem dX2_readPieces_12 : decode cX2_readPieces 12 = .ok (.iload_n 1, 1) := by decide +kernel
theorem dX2_readPieces_13 : decode cX2_readPieces 13 = .ok (.istore_n 3, 1) := by decide +kernel
theorem dX2_readPieces_14 : decode cX2_readPieces 14 = .ok (.iload_n 3, 1) := by decide +kernel
theorem dX2_readPieces_15 : decode cX2_readPieces 15 = .ok (.iload_n 2, 1) := by decide +kernel
theorem dX2_readPieces_16 : decode cX2_readPieces 16 = .ok (.if_icmp .ge 17, 3) := by decide +kernel
theorem dX2_readPieces_19 : decode cX2_readPieces 19 = .ok (.aload_n 0, 1) := by decide +kernel
theorem dX2_readPieces_20 : decode cX2_readPieces 20 = .ok (.getfield 23, 3) := by decide +kernel
theorem dX2_readPieces_23 : decode cX2_readPieces 23 = .ok (.iload_n 3, 1) := by decide +kernel
theorem dX2_readPieces_24 : decode cX2_readPieces 24 = .ok (.invokevirtual 144, 3) := by decide +kernel
theorem dX2_readPieces_27 : decode cX2_readPieces 27 = .ok (.iinc 3 1, 3) := by decide +kernel
theorem dX2_readPieces_30 : decode cX2_readPieces 30 = .ok (.goto (-16), 3) := by decide +kernel
theorem dX2_readPieces_33 : decode cX2_readPieces 33 = .ok (.aload_n 0, 1) := by decide +kernel
theorem dX2_readPieces_34 : decode cX2_readPieces 34 = .ok (.getfield 23, 3) := by decide +kernel
theorem dX2_readPieces_37 : decode cX2_readPieces 37 = .ok (.iload_n 2, 1) := by decide +kernel
theorem dX2_readPieces_38 : decode cX2_readPieces 38 = .ok (.invokevirtual 147, 3) := by decide +kernel
theorem dX2_readPieces_41 : decode cX2_readPieces 41 = .ok (.istore_n 3, 1) := by decide +kernel
theorem dX2_readPieces_42 : decode cX2_readPieces 42 = .ok (.aload_n 0, 1) := by decide +kernel
theorem dX2_readPieces_43 : decode cX2_readPieces 43 = .ok (.getfield 23, 3) := by decide +kernel
theorem dX2_readPieces_46 : decode cX2_readPieces 46 = .ok (.iload_n 1, 1) := by decide +kernel
theorem dX2_readPieces_47 : decode cX2_readPieces 47 = .ok (.invokevirtual 147, 3) := by decide +kernel
theorem dX2_readPieces_50 : decode cX2_readPieces 50 = .ok (.istore 4, 2) := by decide +kernel
theorem dX2_readPieces_52 : decode cX2_readPieces 52 = .ok (.iload 4, 2) := by decide +kernel
theorem dX2_readPieces_54 : decode cX2_readPieces 54 = .ok (.iload_n 3, 1) := by decide +kernel
theorem dX2_readPieces_55 : decode cX2_readPieces 55 = .ok (.if_icmp .ge 45, 3) := by decide +kernel
theorem dX2_readPieces_58 : decode cX2_readPieces 58 = .ok (.aload_n 0, 1) := by decide +kernel
theorem dX2_readPieces_59 : decode cX2_readPieces 59 = .ok (.getfield 23, 3) := by decide +kernel
theorem dX2_readPieces_62 : decode cX2_readPieces 62 = .ok (.iload 4, 2) := by decide +kernel
theorem dX2_readPieces_64 : decode cX2_readPieces 64 = .ok (.invokevirtual 150, 3) := by decide +kernel
theorem dX2_readPieces_67 : decode cX2_readPieces 67 = .ok (.istore 5, 2) := by decide +kernel
theorem dX2_readPieces_69 : decode cX2_readPieces 69 = .ok (.aload_n 0, 1) := by decide +kernel
theorem dX2_readPieces_70 : decode cX2_readPieces 70 = .ok (.getfield 30, 3) := by decide +kernel
theorem dX2_readPieces_73 : decode cX2_readPieces 73 = .ok (.aload_n 0, 1) := by decide +kernel
theorem dX2_readPieces_74 : decode cX2_readPieces 74 = .ok (.getfield 12, 3) := by decide +kernel
theorem dX2_readPieces_77 : decode cX2_readPieces 77 = .ok (.iload 5, 2) := by decide +kernel
theorem dX2_readPieces_79 : decode cX2_readPieces 79 = .ok (.invokevirtual 153, 3) := by decide +kernel
theorem dX2_readPieces_82 : decode cX2_readPieces 82 = .ok (.aload_n 0, 1) := by decide +kernel
theorem dX2_readPieces_83 : decode cX2_readPieces 83 = .ok (.getfield 12, 3) := by decide +kernel
theorem dX2_readPieces_86 : decode cX2_readPieces 86 = .ok (.iload 5, 2) := by decide +kernel
theorem dX2_readPieces_88 : decode cX2_readPieces 88 = .ok (.invokevirtual 156, 3) := by decide +kernel
theorem dX2_readPieces_91 : decode cX2_readPieces 91 = .ok (.invokevirtual 159, 3) := by decide +kernel
theorem dX2_readPieces_94 : decode cX2_readPieces 94 = .ok (.iinc 4 1, 3) := by decide +kernel
theorem dX2_readPieces_97 : decode cX2_readPieces 97 = .ok (.goto (-45), 3) := by decide +kernel
theorem dX2_readPieces_100 : decode cX2_readPieces 100 = .ok (.return_, 1) := by decide +kernel
set_option maxRecDepth 20000 in
theorem ggX2_sortHotPieces_X2_isToSort : GoodIn wsX2_sortHotPieces wsX2_isToSort := goodIn_r _ [7, 1, 8, 9, 10, 11, 12, 13, 14, 15, 16, 17, 18, 19, 20, 21, 22, 23, 24, 25, 26, 27, 28, 29, 30, 31, 32, 33, 34, 35, 36, 6, 37, 38, 39, 40, 41, 82, 83, 84, 85, 86, 87, 88, 89, 90, 91, 92, 93, 94, 95, 96, 97] (by decide +kernel) (by decide +kernel)
set_option maxRecDepth 20000 in
theorem gX2_sortHotPieces_X2_isToSort : GoodIn wsX2_sortHotPieces (wsV RX2 162 RX2 yX2_isToSort wsX2_isToSort) := goodIn_app (goodIn_of _ (by decide +kernel)) ggX2_sortHotPieces_X2_isToSort
set_option maxRecDepth 20000 in
theorem ggX2_sortHotPieces_X3_sizeOf : GoodIn wsX2_sortHotPieces wsX3_sizeOf := goodIn_r _ [12, 13, 14, 15, 11, 16, 17, 18, 19, 20, 21, 22, 23, 90, 91, 92, 93, 94, 95, 96, 97] (by decide +kernel) (by decide +kernel)
set_option maxRecDepth 20000 in
theorem gX2_sortHotPieces_X3_sizeOf : GoodIn wsX2_sortHotPieces (wsV RX2 165 RX3 yX3_sizeOf wsX3_sizeOf) := goodIn_app (goodIn_of _ (by decide +kernel)) ggX2_sortHotPieces_X3_sizeOf
set_option maxRecDepth 20000 in
theorem ggX2_sortHotPieces_X7_powerFor : GoodIn wsX2_sortHotPieces wsX7_powerFor := goodIn_r _ [43] (by decide +kernel) (by decide +kernel)
set_option maxRecDepth 20000 in
theorem gX2_sortHotPieces_X7_powerFor_n168 : GoodIn wsX2_sortHotPieces (wsX7_powerFor) := ggX2_sortHotPieces_X7_powerFor
set_option maxRecDepth 20000 in
theorem ggX2_sortHotPieces_X3_putInOrder : GoodIn wsX2_sortHotPieces wsX3_putInOrder := goodIn_r _ [47, 28, 19, 20, 21, 11, 22, 23, 13, 14, 15, 16, 17, 18, 48, 49, 50, 51, 52, 53, 54, 55, 56, 57, 58, 59, 60, 61, 62, 63, 64, 65, 66, 67, 68, 69, 70, 71, 72, 73, 74, 75, 90, 91, 92, 93, 94, 95, 96, 97, 98, 99, 100, 101] (by decide +kernel) (by decide +kernel)
set_option maxRecDepth 20000 in
theorem gX2_sortHotPieces_X3_putInOrder : GoodIn wsX2_sortHotPieces (wsV RX2 171 RX3 yX3_putInOrder wsX3_putInOrder) := goodIn_app (goodIn_of _ (by decide +kernel)) ggX2_sortHotPieces_X3_putInOrder
set_option maxRecDepth 20000 in
theorem ggX2_sortHotPieces_X0_putNumber : GoodIn wsX2_sortHotPieces wsX0_putNumber := goodIn_r _ [80, 81, 102, 103] (by decide +kernel) (by decide +kernel)
set_option maxRecDepth 20000 in
theorem gX2_sortHotPieces_X0_putNumber : GoodIn wsX2_sortHotPieces (wsV RX2 120 RX0 yX0_putNumber wsX0_putNumber) := goodIn_app (goodIn_of _ (by decide +kernel)) ggX2_sortHotPieces_X0_putNumber
theorem dX2_sortHotPieces_0 : decode cX2_sortHotPieces 0 = .ok (.iconst 0, 1) := by decide +kernel
theorem dX2_sortHotPieces_1 : decode cX2_sortHotPieces 1 = .ok (.istore_n 3, 1) := by decide +kernel
theorem dX2_sortHotPieces_2 : decode cX2_sortHotPieces 2 = .ok (.iconst 0, 1) := by decide +kernel
theorem dX2_sortHotPieces_3 : decode cX2_sortHotPieces 3 = .ok (.istore 4, 2) := by decide +kernel
theorem dX2_sortHotPieces_5 : decode cX2_sortHotPieces 5 = .ok (.iload_n 1, 1) := by decide +kernel
theorem dX2_sortHotPieces_6 : decode cX2_sortHotPieces 6 = .ok (.istore 5, 2) := by decide +kernel
theorem dX2_sortHotPieces_8 : decode cX2_sortHotPieces 8 = .ok (.iload 5, 2) := by decide +kernel
theorem dX2_sortHotPieces_10 : decode cX2_sortHotPieces 10 = .ok (.iload_n 2, 1) := by decide +kernel
theorem dX2_sortHotPieces_11 : decode cX2_sortHotPieces 11 = .ok (.if_icmp .ge 52, 3) := by decide +kernel
theorem dX2_sortHotPieces_14 : decode cX2_sortHotPieces 14 = .ok (.aload_n 0, 1) := by decide +kernel
theorem dX2_sortHotPieces_15 : decode cX2_sortHotPieces 15 = .ok (.iload 5, 2) := by decide +kernel
theorem dX2_sortHotPieces_17 : decode cX2_sortHotPieces 17 = .ok (.invokevirtual 162, 3) := by decide +kernel
theorem dX2_sortHotPieces_20 : decode cX2_sortHotPieces 20 = .ok (.ifCond .eq 37, 3) := by decide +kernel
theorem dX2_sortHotPieces_23 : decode cX2_sortHotPieces 23 = .ok (.aload_n 0, 1) := by decide +kernel
theorem dX2_sortHotPieces_24 : decode cX2_sortHotPieces 24 = .ok (.getfield 23, 3) := by decide +kernel
theorem dX2_sortHotPieces_27 : decode cX2_sortHotPieces 27 = .ok (.iload 5, 2) := by decide +kernel
theorem dX2_sortHotPieces_29 : decode cX2_sortHotPieces 29 = .ok (.invokevirtual 165, 3) := by decide +kernel
theorem dX2_sortHotPieces_32 : decode cX2_sortHotPieces 32 = .ok (.istore 6, 2) := by decide +kernel
theorem dX2_sortHotPieces_34 : decode cX2_sortHotPieces 34 = .ok (.iload_n 3, 1) := by decide +kernel
theorem dX2_sortHotPieces_35 : decode cX2_sortHotPieces 35 = .ok (.iload 6, 2) := by decide +kernel
theorem dX2_sortHotPieces_37 : decode cX2_sortHotPieces 37 = .ok (.iload 6, 2) := by decide +kernel
theorem dX2_sortHotPieces_39 : decode cX2_sortHotPieces 39 = .ok (.invokestatic 168, 3) := by decide +kernel
theorem dX2_sortHotPieces_42 : decode cX2_sortHotPieces 42 = .ok (.imul, 1) := by decide +kernel
theorem dX2_sortHotPieces_43 : decode cX2_sortHotPieces 43 = .ok (.iadd, 1) := by decide +kernel
theorem dX2_sortHotPieces_44 : decode cX2_sortHotPieces 44 = .ok (.istore_n 3, 1) := by decide +kernel
theorem dX2_sortHotPieces_45 : decode cX2_sortHotPieces 45 = .ok (.aload_n 0, 1) := by decide +kernel
theorem dX2_sortHotPieces_46 : decode cX2_sortHotPieces 46 = .ok (.getfield 23, 3) := by decide +kernel
theorem dX2_sortHotPieces_49 : decode cX2_sortHotPieces 49 = .ok (.iload 5, 2) := by decide +kernel
theorem dX2_sortHotPieces_51 : decode cX2_sortHotPieces 51 = .ok (.invokevirtual 171, 3) := by decide +kernel
theorem dX2_sortHotPieces_54 : decode cX2_sortHotPieces 54 = .ok (.iinc 4 1, 3) := by decide +kernel
theorem dX2_sortHotPieces_57 : decode cX2_sortHotPieces 57 = .ok (.iinc 5 1, 3) := by decide +kernel
theorem dX2_sortHotPieces_60 : decode cX2_sortHotPieces 60 = .ok (.goto (-52), 3) := by decide +kernel
theorem dX2_sortHotPieces_63 : decode cX2_sortHotPieces 63 = .ok (.aload_n 0, 1) := by decide +kernel
theorem dX2_sortHotPieces_64 : decode cX2_sortHotPieces 64 = .ok (.getfield 30, 3) := by decide +kernel
theorem dX2_sortHotPieces_67 : decode cX2_sortHotPieces 67 = .ok (.bipush 7, 2) := by decide +kernel
theorem dX2_sortHotPieces_69 : decode cX2_sortHotPieces 69 = .ok (.iload 4, 2) := by decide +kernel
theorem dX2_sortHotPieces_71 : decode cX2_sortHotPieces 71 = .ok (.invokevirtual 120, 3) := by decide +kernel
theorem dX2_sortHotPieces_74 : decode cX2_sortHotPieces 74 = .ok (.iload_n 3, 1) := by decide +kernel
theorem dX2_sortHotPieces_75 : decode cX2_sortHotPieces 75 = .ok (.ireturn, 1) := by decide +kernel
set_option maxRecDepth 20000 in
theorem ggX2_isToSort_X3_sizeOf : GoodIn wsX2_isToSort wsX3_sizeOf := goodIn_r _ [6, 7, 8, 9, 5, 10, 11, 12, 13, 14, 15, 16, 17, 45, 46, 47, 48, 49, 50, 51, 52] (by decide +kernel) (by decide +kernel)
set_option maxRecDepth 20000 in
theorem gX2_isToSort_X3_sizeOf : GoodIn wsX2_isToSort (wsV RX2 165 RX3 yX3_sizeOf wsX3_sizeOf) := goodIn_app (goodIn_of _ (by decide +kernel)) ggX2_isToSort_X3_sizeOf
set_option maxRecDepth 20000 in
theorem ggX2_isToSort_X3_isSorted : GoodIn wsX2_isToSort wsX3_isSorted := goodIn_r _ [21, 22, 13, 14, 15, 5, 16, 17, 45, 46, 47, 48, 49, 50, 51, 52] (by decide +kernel) (by decide +kernel)
set_option maxRecDepth 20000 in
theorem gX2_isToSort_X3_isSorted : GoodIn wsX2_isToSort (wsV RX2 174 RX3 yX3_isSorted wsX3_isSorted) := goodIn_app (goodIn_of _ (by decide +kernel)) ggX2_isToSort_X3_isSorted
set_option maxRecDepth 20000 in
theorem ggX2_isToSort_X3_heatOf : GoodIn wsX2_isToSort wsX3_heatOf := goodIn_r _ [26, 27, 13, 14, 15, 5, 16, 17, 45, 46, 47, 48, 49, 50, 51, 52] (by decide +kernel) (by decide +kernel)
set_option maxRecDepth 20000 in
theorem gX2_isToSort_X3_heatOf : GoodIn wsX2_isToSort (wsV RX2 177 RX3 yX3_heatOf wsX3_heatOf) := goodIn_app (goodIn_of _ (by decide +kernel)) ggX2_isToSort_X3_heatOf
set_option maxRecDepth 20000 in
theorem ggX2_isToSort_X2_setting : GoodIn wsX2_isToSort wsX2_setting := goodIn_r _ [32, 33, 34, 35, 36, 37, 38, 39, 40, 41, 42, 43, 44] (by decide +kernel) (by decide +kernel)
set_option maxRecDepth 20000 in
theorem gX2_isToSort_X2_setting : GoodIn wsX2_isToSort (wsV RX2 180 RX2 yX2_setting wsX2_setting) := goodIn_app (goodIn_of _ (by decide +kernel)) ggX2_isToSort_X2_setting
theorem dX2_isToSort_0 : decode cX2_isToSort 0 = .ok (.aload_n 0, 1) := by decide +kernel
theorem dX2_isToSort_1 : decode cX2_isToSort 1 = .ok (.getfield 23, 3) := by decide +kernel
theorem dX2_isToSort_4 : decode cX2_isToSort 4 = .ok (.iload_n 1, 1) := by decide +kernel
theorem dX2_isToSort_5 : decode cX2_isToSort 5 = .ok (.invokevirtual 165, 3) := by decide +kernel
theorem dX2_isToSort_8 : decode cX2_isToSort 8 = .ok (.istore_n 2, 1) := by decide +kernel
theorem dX2_isToSort_9 : decode cX2_isToSort 9 = .ok (.aload_n 0, 1) := by decide +kernel
theorem dX2_isToSort_10 : decode cX2_isToSort 10 = .ok (.getfield 23, 3) := by decide +kernel
theorem dX2_isToSort_13 : decode cX2_isToSort 13 = .ok (.iload_n 1, 1) := by decide +kernel
theorem dX2_isToSort_14 : decode cX2_isToSort 14 = .ok (.invokevirtual 174, 3) := by decide +kernel
theorem dX2_isToSort_17 : decode cX2_isToSort 17 = .ok (.ifCond .ne 37, 3) := by decide +kernel
theorem dX2_isToSort_20 : decode cX2_isToSort 20 = .ok (.aload_n 0, 1) := by decide +kernel
theorem dX2_isToSort_21 : decode cX2_isToSort 21 = .ok (.getfield 23, 3) := by decide +kernel
theorem dX2_isToSort_24 : decode cX2_isToSort 24 = .ok (.iload_n 1, 1) := by decide +kernel
theorem dX2_isToSort_25 : decode cX2_isToSort 25 = .ok (.invokevirtual 177, 3) := by decide +kernel
theorem dX2_isToSort_28 : decode cX2_isToSort 28 = .ok (.aload_n 0, 1) := by decide +kernel
theorem dX2_isToSort_29 : decode cX2_isToSort 29 = .ok (.iconst 0, 1) := by decide +kernel
theorem dX2_isToSort_30 : decode cX2_isToSort 30 = .ok (.invokevirtual 180, 3) := by decide +kernel
theorem dX2_isToSort_33 : decode cX2_isToSort 33 = .ok (.if_icmp .lt 21, 3) := by decide +kernel
theorem dX2_isToSort_36 : decode cX2_isToSort 36 = .ok (.iload_n 2, 1) := by decide +kernel
theorem dX2_isToSort_37 : decode cX2_isToSort 37 = .ok (.iconst 2, 1) := by decide +kernel
theorem dX2_isToSort_38 : decode cX2_isToSort 38 = .ok (.if_icmp .lt 16, 3) := by decide +kernel
theorem dX2_isToSort_41 : decode cX2_isToSort 41 = .ok (.iload_n 2, 1) := by decide +kernel
theorem dX2_isToSort_42 : decode cX2_isToSort 42 = .ok (.aload_n 0, 1) := by decide +kernel
theorem dX2_isToSort_43 : decode cX2_isToSort 43 = .ok (.iconst 1, 1) := by decide +kernel
theorem dX2_isToSort_44 : decode cX2_isToSort 44 = .ok (.invokevirtual 180, 3) := by decide +kernel
theorem dX2_isToSort_47 : decode cX2_isToSort 47 = .ok (.if_icmp .gt 7, 3) := by decide +kernel
theorem dX2_isToSort_50 : decode cX2_isToSort 50 = .ok (.iconst 1, 1) := by decide +kernel
theorem dX2_isToSort_51 : decode cX2_isToSort 51 = .ok (.goto 4, 3) := by decide +kernel
theorem dX2_isToSort_54 : decode cX2_isToSort 54 = .ok (.iconst 0, 1) := by decide +kernel
theorem dX2_isToSort_55 : decode cX2_isToSort 55 = .ok (.ireturn, 1) := by decide +kernel
set_option maxRecDepth 20000 in
theorem ggX2_dropBounds_X2_setting : GoodIn wsX2_dropBounds wsX2_setting := goodIn_r _ [12, 13, 14, 15, 16, 57, 58, 59, 60, 61, 62, 63, 64] (by decide +kernel) (by decide +kernel)
set_option maxRecDepth 20000 in
theorem gX2_dropBounds_X2_setting : GoodIn wsX2_dropBounds (wsV RX2 180 RX2 yX2_setting wsX2_setting) := goodIn_app (goodIn_of _ (by decide +kernel)) ggX2_dropBounds_X2_setting
set_option maxRecDepth 20000 in
theorem ggX2_dropBounds_X3_coldestOfPairs : GoodIn wsX2_dropBounds wsX3_coldestOfPairs := goodIn_r _ [21, 22, 23, 24, 25, 20, 26, 27, 28, 29, 30, 31, 32, 33, 34, 35, 65, 66, 67, 68, 69, 70, 71, 72] (by decide +kernel) (by decide +kernel)
set_option maxRecDepth 20000 in
theorem gX2_dropBounds_X3_coldestOfPairs : GoodIn wsX2_dropBounds (wsV RX2 191 RX3 yX3_coldestOfPairs wsX3_coldestOfPairs) := goodIn_app (goodIn_of _ (by decide +kernel)) ggX2_dropBounds_X3_coldestOfPairs
set_option maxRecDepth 20000 in
theorem ggX2_dropBounds_X3_joinNext : GoodIn wsX2_dropBounds wsX3_joinNext := goodIn_r _ [39, 31, 40, 22, 32, 33, 34, 20, 35, 41, 42, 43, 44, 45, 46, 5, 47, 48, 4, 6, 49, 50, 65, 66, 67, 68, 69, 70, 71, 72] (by decide +kernel) (by decide +kernel)
set_option maxRecDepth 20000 in
theorem gX2_dropBounds_X3_joinNext : GoodIn wsX2_dropBounds (wsV RX2 195 RX3 yX3_joinNext wsX3_joinNext) := goodIn_app (goodIn_of _ (by decide +kernel)) ggX2_dropBounds_X3_joinNext
set_option maxRecDepth 20000 in
theorem ggX2_dropBounds_X0_putNumber : GoodIn wsX2_dropBounds wsX0_putNumber := goodIn_r _ [55, 56, 73, 74] (by decide +kernel) (by decide +kernel)
set_option maxRecDepth 20000 in
theorem gX2_dropBounds_X0_putNumber : GoodIn wsX2_dropBounds (wsV RX2 120 RX0 yX0_putNumber wsX0_putNumber) := goodIn_app (goodIn_of _ (by decide +kernel)) ggX2_dropBounds_X0_putNumber
theorem dX2_dropBounds_0 : decode cX2_dropBounds 0 = .ok (.aload_n 0, 1) := by decide +kernel
theorem dX2_dropBounds_1 : decode cX2_dropBounds 1 = .ok (.getfield 23, 3) := by decide +kernel
theorem dX2_dropBounds_4 : decode cX2_dropBounds 4 = .ok (.getfield 183, 3) := by decide +kernel
theorem dX2_dropBounds_7 : decode cX2_dropBounds 7 = .ok (.aload_n 0, 1) := by decide +kernel
theorem dX2_dropBounds_8 : decode cX2_dropBounds 8 = .ok (.iconst 2, 1) := by decide +kernel
theorem dX2_dropBounds_9 : decode cX2_dropBounds 9 = .ok (.invokevirtual 180, 3) := by decide +kernel
theorem dX2_dropBounds_12 : decode cX2_dropBounds 12 = .ok (.isub, 1) := by decide +kernel
theorem dX2_dropBounds_13 : decode cX2_dropBounds 13 = .ok (.iconst 0, 1) := by decide +kernel
theorem dX2_dropBounds_14 : decode cX2_dropBounds 14 = .ok (.invokestatic 186, 3) := by decide +kernel
theorem dX2_dropBounds_17 : decode cX2_dropBounds 17 = .ok (.istore_n 1, 1) := by decide +kernel
theorem dX2_dropBounds_18 : decode cX2_dropBounds 18 = .ok (.iconst 0, 1) := by decide +kernel
theorem dX2_dropBounds_19 : decode cX2_dropBounds 19 = .ok (.istore_n 2, 1) := by decide +kernel
theorem dX2_dropBounds_20 : decode cX2_dropBounds 20 = .ok (.iload_n 2, 1) := by decide +kernel
theorem dX2_dropBounds_21 : decode cX2_dropBounds 21 = .ok (.iload_n 1, 1) := by decide +kernel
theorem dX2_dropBounds_22 : decode cX2_dropBounds 22 = .ok (.if_icmp .ge 23, 3) := by decide +kernel
theorem dX2_dropBounds_25 : decode cX2_dropBounds 25 = .ok (.aload_n 0, 1) := by decide +kernel
theorem dX2_dropBounds_26 : decode cX2_dropBounds 26 = .ok (.getfield 23, 3) := by decide +kernel
theorem dX2_dropBounds_29 : decode cX2_dropBounds 29 = .ok (.aload_n 0, 1) := by decide +kernel
theorem dX2_dropBounds_30 : decode cX2_dropBounds 30 = .ok (.getfield 23, 3) := by decide +kernel
theorem dX2_dropBounds_33 : decode cX2_dropBounds 33 = .ok (.invokevirtual 191, 3) := by decide +kernel
theorem dX2_dropBounds_36 : decode cX2_dropBounds 36 = .ok (.invokevirtual 195, 3) := by decide +kernel
theorem dX2_dropBounds_39 : decode cX2_dropBounds 39 = .ok (.iinc 2 1, 3) := by decide +kernel
theorem dX2_dropBounds_42 : decode cX2_dropBounds 42 = .ok (.goto (-22), 3) := by decide +kernel
theorem dX2_dropBounds_45 : decode cX2_dropBounds 45 = .ok (.aload_n 0, 1) := by decide +kernel
theorem dX2_dropBounds_46 : decode cX2_dropBounds 46 = .ok (.getfield 30, 3) := by decide +kernel
theorem dX2_dropBounds_49 : decode cX2_dropBounds 49 = .ok (.bipush 8, 2) := by decide +kernel
theorem dX2_dropBounds_51 : decode cX2_dropBounds 51 = .ok (.iload_n 1, 1) := by decide +kernel
theorem dX2_dropBounds_52 : decode cX2_dropBounds 52 = .ok (.invokevirtual 120, 3) := by decide +kernel
theorem dX2_dropBounds_55 : decode cX2_dropBounds 55 = .ok (.return_, 1) := by decide +kernel
set_option maxRecDepth 20000 in
theorem ggX2_mergeSpan_X6_isIn : GoodIn wsX2_mergeSpan wsX6_isIn := goodIn_r _ [12, 13, 14, 15, 11, 16, 17, 101, 102, 103, 104] (by decide +kernel) (by decide +kernel)
set_option maxRecDepth 20000 in
theorem gX2_mergeSpan_X6_isIn : GoodIn wsX2_mergeSpan (wsV RX2 201 RX6 yX6_isIn wsX6_isIn) := goodIn_app (goodIn_of _ (by decide +kernel)) ggX2_mergeSpan_X6_isIn
set_option maxRecDepth 20000 in
theorem ggX2_mergeSpan_X2_mergeRow : GoodIn wsX2_mergeSpan wsX2_mergeRow := goodIn_r _ [22, 23, 24, 7, 25, 14, 15, 11, 16, 17, 26, 27, 28, 29, 30, 31, 32, 33, 34, 35, 36, 37, 38, 39, 40, 41, 42, 43, 44, 45, 46, 47, 48, 49, 50, 51, 52, 53, 54, 55, 56, 57, 58, 59, 60, 61, 62, 63, 64, 65, 66, 67, 68, 69, 70, 71, 72, 13, 73, 74, 75, 76, 77, 3, 4, 5, 78, 79, 80, 81, 82, 83, 84, 85, 86, 87, 88, 89, 90, 91, 92, 93, 94, 95, 96, 97, 98, 99, 100, 105, 106, 107, 108, 109, 110, 111, 112, 101, 102, 103, 104] (by decide +kernel) (by decide +kernel)
set_option maxRecDepth 20000 in
theorem gX2_mergeSpan_X2_mergeRow : GoodIn wsX2_mergeSpan (wsV RX2 205 RX2 yX2_mergeRow wsX2_mergeRow) := goodIn_app (goodIn_of _ (by decide +kernel)) ggX2_mergeSpan_X2_mergeRow
theorem dX2_mergeSpan_0 : decode cX2_mergeSpan 0 = .ok (.iconst 0, 1) := by decide +kernel
theorem dX2_mergeSpan_1 : decode cX2_mergeSpan 1 = .ok (.istore_n 3, 1) := by decide +kernel
theorem dX2_mergeSpan_2 : decode cX2_mergeSpan 2 = .ok (.iconst 0, 1) := by decide +kernel
theorem dX2_mergeSpan_3 : decode cX2_mergeSpan 3 = .ok (.istore 4, 2) := by decide +kernel
theorem dX2_mergeSpan_5 : decode cX2_mergeSpan 5 = .ok (.aload_n 0, 1) := by decide +kernel
theorem dX2_mergeSpan_6 : decode cX2_mergeSpan 6 = .ok (.getfield 48, 3) := by decide +kernel
theorem dX2_mergeSpan_9 : decode cX2_mergeSpan 9 = .ok (.bipush 31, 2) := by decide +kernel
theorem dX2_mergeSpan_11 : decode cX2_mergeSpan 11 = .ok (.invokestatic 198, 3) := by decide +kernel
theorem dX2_mergeSpan_14 : decode cX2_mergeSpan 14 = .ok (.istore 5, 2) := by decide +kernel
theorem dX2_mergeSpan_16 : decode cX2_mergeSpan 16 = .ok (.iconst 0, 1) := by decide +kernel
theorem dX2_mergeSpan_17 : decode cX2_mergeSpan 17 = .ok (.istore 6, 2) := by decide +kernel
theorem dX2_mergeSpan_19 : decode cX2_mergeSpan 19 = .ok (.iload 6, 2) := by decide +kernel
theorem dX2_mergeSpan_21 : decode cX2_mergeSpan 21 = .ok (.iload 5, 2) := by decide +kernel
theorem dX2_mergeSpan_23 : decode cX2_mergeSpan 23 = .ok (.if_icmp .ge 56, 3) := by decide +kernel
theorem dX2_mergeSpan_26 : decode cX2_mergeSpan 26 = .ok (.aload_n 0, 1) := by decide +kernel
theorem dX2_mergeSpan_27 : decode cX2_mergeSpan 27 = .ok (.getfield 45, 3) := by decide +kernel
theorem dX2_mergeSpan_30 : decode cX2_mergeSpan 30 = .ok (.iload 6, 2) := by decide +kernel
theorem dX2_mergeSpan_32 : decode cX2_mergeSpan 32 = .ok (.iaload, 1) := by decide +kernel
theorem dX2_mergeSpan_33 : decode cX2_mergeSpan 33 = .ok (.istore 7, 2) := by decide +kernel
theorem dX2_mergeSpan_35 : decode cX2_mergeSpan 35 = .ok (.aload_n 0, 1) := by decide +kernel
theorem dX2_mergeSpan_36 : decode cX2_mergeSpan 36 = .ok (.getfield 12, 3) := by decide +kernel
theorem dX2_mergeSpan_39 : decode cX2_mergeSpan 39 = .ok (.iload 7, 2) := by decide +kernel
theorem dX2_mergeSpan_41 : decode cX2_mergeSpan 41 = .ok (.iload_n 1, 1) := by decide +kernel
theorem dX2_mergeSpan_42 : decode cX2_mergeSpan 42 = .ok (.iload_n 2, 1) := by decide +kernel
theorem dX2_mergeSpan_43 : decode cX2_mergeSpan 43 = .ok (.invokevirtual 201, 3) := by decide +kernel
theorem dX2_mergeSpan_46 : decode cX2_mergeSpan 46 = .ok (.ifCond .eq 15, 3) := by decide +kernel
theorem dX2_mergeSpan_49 : decode cX2_mergeSpan 49 = .ok (.iload_n 3, 1) := by decide +kernel
theorem dX2_mergeSpan_50 : decode cX2_mergeSpan 50 = .ok (.aload_n 0, 1) := by decide +kernel
theorem dX2_mergeSpan_51 : decode cX2_mergeSpan 51 = .ok (.iload 7, 2) := by decide +kernel
theorem dX2_mergeSpan_53 : decode cX2_mergeSpan 53 = .ok (.invokevirtual 205, 3) := by decide +kernel
theorem dX2_mergeSpan_56 : decode cX2_mergeSpan 56 = .ok (.iadd, 1) := by decide +kernel
theorem dX2_mergeSpan_57 : decode cX2_mergeSpan 57 = .ok (.istore_n 3, 1) := by decide +kernel
theorem dX2_mergeSpan_58 : decode cX2_mergeSpan 58 = .ok (.goto 15, 3) := by decide +kernel
theorem dX2_mergeSpan_61 : decode cX2_mergeSpan 61 = .ok (.aload_n 0, 1) := by decide +kernel
theorem dX2_mergeSpan_62 : decode cX2_mergeSpan 62 = .ok (.getfield 45, 3) := by decide +kernel
theorem dX2_mergeSpan_65 : decode cX2_mergeSpan 65 = .ok (.iload 4, 2) := by decide +kernel
theorem dX2_mergeSpan_67 : decode cX2_mergeSpan 67 = .ok (.iload 7, 2) := by decide +kernel
theorem dX2_mergeSpan_69 : decode cX2_mergeSpan 69 = .ok (.iastore, 1) := by decide +kernel
theorem dX2_mergeSpan_70 : decode cX2_mergeSpan 70 = .ok (.iinc 4 1, 3) := by decide +kernel
theorem dX2_mergeSpan_73 : decode cX2_mergeSpan 73 = .ok (.iinc 6 1, 3) := by decide +kernel
theorem dX2_mergeSpan_76 : decode cX2_mergeSpan 76 = .ok (.goto (-57), 3) := by decide +kernel
theorem dX2_mergeSpan_79 : decode cX2_mergeSpan 79 = .ok (.aload_n 0, 1) := by decide +kernel
theorem dX2_mergeSpan_80 : decode cX2_mergeSpan 80 = .ok (.iload 4, 2) := by decide +kernel
theorem dX2_mergeSpan_82 : decode cX2_mergeSpan 82 = .ok (.putfield 48, 3) := by decide +kernel
theorem dX2_mergeSpan_85 : decode cX2_mergeSpan 85 = .ok (.iload_n 3, 1) := by decide +kernel
theorem dX2_mergeSpan_86 : decode cX2_mergeSpan 86 = .ok (.ireturn, 1) := by decide +kernel
set_option maxRecDepth 20000 in
theorem ggX2_mergeTooMany_X2_setting : GoodIn wsX2_mergeTooMany wsX2_setting := goodIn_r _ [7, 8, 9, 10, 11, 106, 107, 108, 109, 110, 111, 112, 113] (by decide +kernel) (by decide +kernel)
set_option maxRecDepth 20000 in
theorem gX2_mergeTooMany_X2_setting : GoodIn wsX2_mergeTooMany (wsV RX2 180 RX2 yX2_setting wsX2_setting) := goodIn_app (goodIn_of _ (by decide +kernel)) ggX2_mergeTooMany_X2_setting
set_option maxRecDepth 20000 in
theorem ggX2_mergeTooMany_X2_pendingAt : GoodIn wsX2_mergeTooMany wsX2_pendingAt := goodIn_r _ [15, 1, 16, 106, 107, 108, 109, 110, 111, 112, 113] (by decide +kernel) (by decide +kernel)
set_option maxRecDepth 20000 in
theorem gX2_mergeTooMany_X2_pendingAt : GoodIn wsX2_mergeTooMany (wsV RX2 208 RX2 yX2_pendingAt wsX2_pendingAt) := goodIn_app (goodIn_of _ (by decide +kernel)) ggX2_mergeTooMany_X2_pendingAt
set_option maxRecDepth 20000 in
theorem ggX2_mergeTooMany_X2_removePending : GoodIn wsX2_mergeTooMany wsX2_removePending := goodIn_r _ [20, 1, 21, 22, 23, 24, 16, 106, 107, 108, 109, 110, 111, 112, 113] (by decide +kernel) (by decide +kernel)
set_option maxRecDepth 20000 in
theorem gX2_mergeTooMany_X2_removePending : GoodIn wsX2_mergeTooMany (wsV RX2 113 RX2 yX2_removePending wsX2_removePending) := goodIn_app (goodIn_of _ (by decide +kernel)) ggX2_mergeTooMany_X2_removePending
set_option maxRecDepth 20000 in
theorem ggX2_mergeTooMany_X2_mergeRow : GoodIn wsX2_mergeTooMany wsX2_mergeRow := goodIn_r _ [28, 29, 30, 31, 32, 33, 34, 35, 36, 37, 38, 39, 40, 41, 42, 43, 44, 45, 46, 47, 48, 49, 50, 51, 52, 53, 54, 55, 56, 57, 58, 59, 60, 61, 62, 63, 64, 65, 66, 67, 68, 69, 70, 71, 72, 73, 74, 75, 76, 77, 78, 79, 80, 81, 82, 83, 84, 85, 86, 87, 88, 89, 90, 22, 23, 24, 91, 92, 93, 94, 95, 96, 97, 98, 99, 100, 101, 102, 103, 104, 105, 106, 107, 108, 109, 110, 111, 112, 113, 114, 115, 116, 117, 118, 119, 120, 121, 122, 123, 124, 125] (by decide +kernel) (by decide +kernel)
set_option maxRecDepth 20000 in
theorem gX2_mergeTooMany_X2_mergeRow : GoodIn wsX2_mergeTooMany (wsV RX2 205 RX2 yX2_mergeRow wsX2_mergeRow) := goodIn_app (goodIn_of _ (by decide +kernel)) ggX2_mergeTooMany_X2_mergeRow
theorem dX2_mergeTooMany_0 : decode cX2_mergeTooMany 0 = .ok (.aload_n 0, 1) := by decide +kernel
theorem dX2_mergeTooMany_1 : decode cX2_mergeTooMany 1 = .ok (.iconst 3, 1) := by decide +kernel
theorem dX2_mergeTooMany_2 : decode cX2_mergeTooMany 2 = .ok (.invokevirtual 180, 3) := by decide +kernel
theorem dX2_mergeTooMany_5 : decode cX2_mergeTooMany 5 = .ok (.istore_n 1, 1) := by decide +kernel
theorem dX2_mergeTooMany_6 : decode cX2_mergeTooMany 6 = .ok (.aload_n 0, 1) := by decide +kernel
theorem dX2_mergeTooMany_7 : decode cX2_mergeTooMany 7 = .ok (.getfield 48, 3) := by decide +kernel
theorem dX2_mergeTooMany_10 : decode cX2_mergeTooMany 10 = .ok (.iload_n 1, 1) := by decide +kernel
theorem dX2_mergeTooMany_11 : decode cX2_mergeTooMany 11 = .ok (.isub, 1) := by decide +kernel
theorem dX2_mergeTooMany_12 : decode cX2_mergeTooMany 12 = .ok (.istore_n 2, 1) := by decide +kernel
theorem dX2_mergeTooMany_13 : decode cX2_mergeTooMany 13 = .ok (.iload_n 2, 1) := by decide +kernel
theorem dX2_mergeTooMany_14 : decode cX2_mergeTooMany 14 = .ok (.ifCond .le 34, 3) := by decide +kernel
theorem dX2_mergeTooMany_17 : decode cX2_mergeTooMany 17 = .ok (.aload_n 0, 1) := by decide +kernel
theorem dX2_mergeTooMany_18 : decode cX2_mergeTooMany 18 = .ok (.iconst 0, 1) := by decide +kernel
theorem dX2_mergeTooMany_19 : decode cX2_mergeTooMany 19 = .ok (.invokevirtual 208, 3) := by decide +kernel
theorem dX2_mergeTooMany_22 : decode cX2_mergeTooMany 22 = .ok (.istore_n 3, 1) := by decide +kernel
theorem dX2_mergeTooMany_23 : decode cX2_mergeTooMany 23 = .ok (.aload_n 0, 1) := by decide +kernel
theorem dX2_mergeTooMany_24 : decode cX2_mergeTooMany 24 = .ok (.iload_n 3, 1) := by decide +kernel
theorem dX2_mergeTooMany_25 : decode cX2_mergeTooMany 25 = .ok (.invokevirtual 113, 3) := by decide +kernel
theorem dX2_mergeTooMany_28 : decode cX2_mergeTooMany 28 = .ok (.aload_n 0, 1) := by decide +kernel
theorem dX2_mergeTooMany_29 : decode cX2_mergeTooMany 29 = .ok (.dup, 1) := by decide +kernel
theorem dX2_mergeTooMany_30 : decode cX2_mergeTooMany 30 = .ok (.getfield 52, 3) := by decide +kernel
theorem dX2_mergeTooMany_33 : decode cX2_mergeTooMany 33 = .ok (.aload_n 0, 1) := by decide +kernel
theorem dX2_mergeTooMany_34 : decode cX2_mergeTooMany 34 = .ok (.iload_n 3, 1) := by decide +kernel
theorem dX2_mergeTooMany_35 : decode cX2_mergeTooMany 35 = .ok (.invokevirtual 205, 3) := by decide +kernel
theorem dX2_mergeTooMany_38 : decode cX2_mergeTooMany 38 = .ok (.iadd, 1) := by decide +kernel
theorem dX2_mergeTooMany_39 : decode cX2_mergeTooMany 39 = .ok (.putfield 52, 3) := by decide +kernel
theorem dX2_mergeTooMany_42 : decode cX2_mergeTooMany 42 = .ok (.iinc 2 (-1), 3) := by decide +kernel
theorem dX2_mergeTooMany_45 : decode cX2_mergeTooMany 45 = .ok (.goto (-32), 3) := by decide +kernel
theorem dX2_mergeTooMany_48 : decode cX2_mergeTooMany 48 = .ok (.return_, 1) := by decide +kernel
set_option maxRecDepth 20000 in
theorem ggX2_mergeRow_X6_keyOf : GoodIn wsX2_mergeRow wsX6_keyOf := goodIn_r _ [8, 9, 97, 98, 99, 100] (by decide +kernel) (by decide +kernel)
set_option maxRecDepth 20000 in
theorem gX2_mergeRow_X6_keyOf : GoodIn wsX2_mergeRow (wsV RX2 153 RX6 yX6_keyOf wsX6_keyOf) := goodIn_app (goodIn_of _ (by decide +kernel)) ggX2_mergeRow_X6_keyOf
set_option maxRecDepth 20000 in
theorem ggX2_mergeRow_X3_pieceFor : GoodIn wsX2_mergeRow wsX3_pieceFor := goodIn_r _ [14, 15, 16, 89, 90, 91, 92, 93, 94, 95, 96] (by decide +kernel) (by decide +kernel)
set_option maxRecDepth 20000 in
theorem gX2_mergeRow_X3_pieceFor : GoodIn wsX2_mergeRow (wsV RX2 126 RX3 yX3_pieceFor wsX3_pieceFor) := goodIn_app (goodIn_of _ (by decide +kernel)) ggX2_mergeRow_X3_pieceFor
set_option maxRecDepth 20000 in
theorem ggX2_mergeRow_X6_stateOf : GoodIn wsX2_mergeRow wsX6_stateOf := goodIn_r _ [20, 21, 97, 98, 99, 100] (by decide +kernel) (by decide +kernel)
set_option maxRecDepth 20000 in
theorem gX2_mergeRow_X6_stateOf : GoodIn wsX2_mergeRow (wsV RX2 107 RX6 yX6_stateOf wsX6_stateOf) := goodIn_app (goodIn_of _ (by decide +kernel)) ggX2_mergeRow_X6_stateOf
set_option maxRecDepth 20000 in
theorem ggX2_mergeRow_X3_putIn : GoodIn wsX2_mergeRow wsX3_putIn := goodIn_r _ [25, 26, 27, 28, 29, 30, 31, 32, 33, 5, 6, 7, 8, 9, 34, 11, 12, 13, 14, 15, 16, 35, 36, 37, 38, 39, 40, 41, 42, 43, 44, 45, 46, 47, 48, 49, 50, 51, 52, 53, 54, 55, 56, 57, 58, 59, 60, 61, 62, 63, 64, 65, 66, 67, 68, 89, 90, 91, 92, 93, 94, 95, 96, 97, 98, 99, 100] (by decide +kernel) (by decide +kernel)
set_option maxRecDepth 20000 in
theorem gX2_mergeRow_X3_putIn : GoodIn wsX2_mergeRow (wsV RX2 211 RX3 yX3_putIn wsX3_putIn) := goodIn_app (goodIn_of _ (by decide +kernel)) ggX2_mergeRow_X3_putIn
set_option maxRecDepth 20000 in
theorem ggX2_mergeRow_X6_putState : GoodIn wsX2_mergeRow wsX6_putState := goodIn_r _ [72, 21, 97, 98, 99, 100] (by decide +kernel) (by decide +kernel)
set_option maxRecDepth 20000 in
theorem gX2_mergeRow_X6_putState : GoodIn wsX2_mergeRow (wsV RX2 110 RX6 yX6_putState wsX6_putState) := goodIn_app (goodIn_of _ (by decide +kernel)) ggX2_mergeRow_X6_putState
set_option maxRecDepth 20000 in
theorem ggX2_mergeRow_X3_takeOut : GoodIn wsX2_mergeRow wsX3_takeOut := goodIn_r _ [76, 27, 26, 28, 29, 30, 31, 32, 77, 78, 79, 13, 80, 49, 50, 51, 52, 33, 5, 6, 7, 8, 9, 34, 11, 12, 14, 15, 16, 58, 59, 60, 61, 62, 63, 64, 65, 66, 67, 68, 39, 89, 90, 91, 92, 93, 94, 95, 96, 97, 98, 99, 100] (by decide +kernel) (by decide +kernel)
set_option maxRecDepth 20000 in
theorem gX2_mergeRow_X3_takeOut : GoodIn wsX2_mergeRow (wsV RX2 214 RX3 yX3_takeOut wsX3_takeOut) := goodIn_app (goodIn_of _ (by decide +kernel)) ggX2_mergeRow_X3_takeOut
theorem dX2_mergeRow_0 : decode cX2_mergeRow 0 = .ok (.aload_n 0, 1) := by decide +kernel
theorem dX2_mergeRow_1 : decode cX2_mergeRow 1 = .ok (.getfield 23, 3) := by decide +kernel
theorem dX2_mergeRow_4 : decode cX2_mergeRow 4 = .ok (.getfield 183, 3) := by decide +kernel
theorem dX2_mergeRow_7 : decode cX2_mergeRow 7 = .ok (.aload_n 0, 1) := by decide +kernel
theorem dX2_mergeRow_8 : decode cX2_mergeRow 8 = .ok (.getfield 23, 3) := by decide +kernel
theorem dX2_mergeRow_11 : decode cX2_mergeRow 11 = .ok (.aload_n 0, 1) := by decide +kernel
theorem dX2_mergeRow_12 : decode cX2_mergeRow 12 = .ok (.getfield 12, 3) := by decide +kernel
theorem dX2_mergeRow_15 : decode cX2_mergeRow 15 = .ok (.iload_n 1, 1) := by decide +kernel
theorem dX2_mergeRow_16 : decode cX2_mergeRow 16 = .ok (.invokevirtual 153, 3) := by decide +kernel
theorem dX2_mergeRow_19 : decode cX2_mergeRow 19 = .ok (.invokevirtual 126, 3) := by decide +kernel
theorem dX2_mergeRow_22 : decode cX2_mergeRow 22 = .ok (.isub, 1) := by decide +kernel
theorem dX2_mergeRow_23 : decode cX2_mergeRow 23 = .ok (.istore_n 2, 1) := by decide +kernel
theorem dX2_mergeRow_24 : decode cX2_mergeRow 24 = .ok (.aload_n 0, 1) := by decide +kernel
theorem dX2_mergeRow_25 : decode cX2_mergeRow 25 = .ok (.getfield 12, 3) := by decide +kernel
theorem dX2_mergeRow_28 : decode cX2_mergeRow 28 = .ok (.iload_n 1, 1) := by decide +kernel
theorem dX2_mergeRow_29 : decode cX2_mergeRow 29 = .ok (.invokevirtual 107, 3) := by decide +kernel
theorem dX2_mergeRow_32 : decode cX2_mergeRow 32 = .ok (.iconst 1, 1) := by decide +kernel
theorem dX2_mergeRow_33 : decode cX2_mergeRow 33 = .ok (.if_icmp .ne 23, 3) := by decide +kernel
theorem dX2_mergeRow_36 : decode cX2_mergeRow 36 = .ok (.aload_n 0, 1) := by decide +kernel
theorem dX2_mergeRow_37 : decode cX2_mergeRow 37 = .ok (.getfield 23, 3) := by decide +kernel
theorem dX2_mergeRow_40 : decode cX2_mergeRow 40 = .ok (.iload_n 1, 1) := by decide +kernel
theorem dX2_mergeRow_41 : decode cX2_mergeRow 41 = .ok (.invokevirtual 211, 3) := by decide +kernel
theorem dX2_mergeRow_44 : decode cX2_mergeRow 44 = .ok (.aload_n 0, 1) := by decide +kernel
theorem dX2_mergeRow_45 : decode cX2_mergeRow 45 = .ok (.getfield 12, 3) := by decide +kernel
theorem dX2_mergeRow_48 : decode cX2_mergeRow 48 = .ok (.iload_n 1, 1) := by decide +kernel
theorem dX2_mergeRow_49 : decode cX2_mergeRow 49 = .ok (.iconst 0, 1) := by decide +kernel
theorem dX2_mergeRow_50 : decode cX2_mergeRow 50 = .ok (.invokevirtual 110, 3) := by decide +kernel
theorem dX2_mergeRow_53 : decode cX2_mergeRow 53 = .ok (.goto 20, 3) := by decide +kernel
theorem dX2_mergeRow_56 : decode cX2_mergeRow 56 = .ok (.aload_n 0, 1) := by decide +kernel
theorem dX2_mergeRow_57 : decode cX2_mergeRow 57 = .ok (.getfield 23, 3) := by decide +kernel
theorem dX2_mergeRow_60 : decode cX2_mergeRow 60 = .ok (.iload_n 1, 1) := by decide +kernel
theorem dX2_mergeRow_61 : decode cX2_mergeRow 61 = .ok (.invokevirtual 214, 3) := by decide +kernel
theorem dX2_mergeRow_64 : decode cX2_mergeRow 64 = .ok (.aload_n 0, 1) := by decide +kernel
theorem dX2_mergeRow_65 : decode cX2_mergeRow 65 = .ok (.getfield 12, 3) := by decide +kernel
theorem dX2_mergeRow_68 : decode cX2_mergeRow 68 = .ok (.iload_n 1, 1) := by decide +kernel
theorem dX2_mergeRow_69 : decode cX2_mergeRow 69 = .ok (.iconst 3, 1) := by decide +kernel
theorem dX2_mergeRow_70 : decode cX2_mergeRow 70 = .ok (.invokevirtual 110, 3) := by decide +kernel
theorem dX2_mergeRow_73 : decode cX2_mergeRow 73 = .ok (.iload_n 2, 1) := by decide +kernel
theorem dX2_mergeRow_74 : decode cX2_mergeRow 74 = .ok (.ireturn, 1) := by decide +kernel
theorem dX2_addPending_0 : decode cX2_addPending 0 = .ok (.aload_n 0, 1) := by decide +kernel
theorem dX2_addPending_1 : decode cX2_addPending 1 = .ok (.getfield 48, 3) := by decide +kernel
theorem dX2_addPending_4 : decode cX2_addPending 4 = .ok (.ifCond .lt 32, 3) := by decide +kernel
theorem dX2_addPending_7 : decode cX2_addPending 7 = .ok (.aload_n 0, 1) := by decide +kernel
theorem dX2_addPending_8 : decode cX2_addPending 8 = .ok (.getfield 48, 3) := by decide +kernel
theorem dX2_addPending_11 : decode cX2_addPending 11 = .ok (.bipush 31, 2) := by decide +kernel
theorem dX2_addPending_13 : decode cX2_addPending 13 = .ok (.if_icmp .ge 23, 3) := by decide +kernel
theorem dX2_addPending_16 : decode cX2_addPending 16 = .ok (.aload_n 0, 1) := by decide +kernel
theorem dX2_addPending_17 : decode cX2_addPending 17 = .ok (.getfield 45, 3) := by decide +kernel
theorem dX2_addPending_20 : decode cX2_addPending 20 = .ok (.aload_n 0, 1) := by decide +kernel
theorem dX2_addPending_21 : decode cX2_addPending 21 = .ok (.getfield 48, 3) := by decide +kernel
theorem dX2_addPending_24 : decode cX2_addPending 24 = .ok (.iload_n 1, 1) := by decide +kernel
theorem dX2_addPending_25 : decode cX2_addPending 25 = .ok (.iastore, 1) := by decide +kernel
theorem dX2_addPending_26 : decode cX2_addPending 26 = .ok (.aload_n 0, 1) := by decide +kernel
theorem dX2_addPending_27 : decode cX2_addPending 27 = .ok (.dup, 1) := by decide +kernel
theorem dX2_addPending_28 : decode cX2_addPending 28 = .ok (.getfield 48, 3) := by decide +kernel
theorem dX2_addPending_31 : decode cX2_addPending 31 = .ok (.iconst 1, 1) := by decide +kernel
theorem dX2_addPending_32 : decode cX2_addPending 32 = .ok (.iadd, 1) := by decide +kernel
theorem dX2_addPending_33 : decode cX2_addPending 33 = .ok (.putfield 48, 3) := by decide +kernel
theorem dX2_addPending_36 : decode cX2_addPending 36 = .ok (.return_, 1) := by decide +kernel
theorem dX2_removePending_0 : decode cX2_removePending 0 = .ok (.iconst 0, 1) := by decide +kernel
theorem dX2_removePending_1 : decode cX2_removePending 1 = .ok (.istore_n 2, 1) := by decide +kernel
theorem dX2_removePending_2 : decode cX2_removePending 2 = .ok (.aload_n 0, 1) := by decide +kernel
theorem dX2_removePending_3 : decode cX2_removePending 3 = .ok (.getfield 48, 3) := by decide +kernel
theorem dX2_removePending_6 : decode cX2_removePending 6 = .ok (.bipush 31, 2) := by decide +kernel
theorem dX2_removePending_8 : decode cX2_removePending 8 = .ok (.invokestatic 198, 3) := by decide +kernel
theorem dX2_removePending_11 : decode cX2_removePending 11 = .ok (.istore_n 3, 1) := by decide +kernel
theorem dX2_removePending_12 : decode cX2_removePending 12 = .ok (.iconst 0, 1) := by decide +kernel
theorem dX2_removePending_13 : decode cX2_removePending 13 = .ok (.istore 4, 2) := by decide +kernel
theorem dX2_removePending_15 : decode cX2_removePending 15 = .ok (.iload 4, 2) := by decide +kernel
theorem dX2_removePending_17 : decode cX2_removePending 17 = .ok (.iload_n 3, 1) := by decide +kernel
theorem dX2_removePending_18 : decode cX2_removePending 18 = .ok (.if_icmp .ge 35, 3) := by decide +kernel
theorem dX2_removePending_21 : decode cX2_removePending 21 = .ok (.aload_n 0, 1) := by decide +kernel
theorem dX2_removePending_22 : decode cX2_removePending 22 = .ok (.getfield 45, 3) := by decide +kernel
theorem dX2_removePending_25 : decode cX2_removePending 25 = .ok (.iload 4, 2) := by decide +kernel
theorem dX2_removePending_27 : decode cX2_removePending 27 = .ok (.iaload, 1) := by decide +kernel
theorem dX2_removePending_28 : decode cX2_removePending 28 = .ok (.istore 5, 2) := by decide +kernel
theorem dX2_removePending_30 : decode cX2_removePending 30 = .ok (.iload 5, 2) := by decide +kernel
theorem dX2_removePending_32 : decode cX2_removePending 32 = .ok (.iload_n 1, 1) := by decide +kernel
theorem dX2_removePending_33 : decode cX2_removePending 33 = .ok (.if_icmp .eq 14, 3) := by decide +kernel
theorem dX2_removePending_36 : decode cX2_removePending 36 = .ok (.aload_n 0, 1) := by decide +kernel
theorem dX2_removePending_37 : decode cX2_removePending 37 = .ok (.getfield 45, 3) := by decide +kernel
theorem dX2_removePending_40 : decode cX2_removePending 40 = .ok (.iload_n 2, 1) := by decide +kernel
theorem dX2_removePending_41 : decode cX2_removePending 41 = .ok (.iload 5, 2) := by decide +kernel
theorem dX2_removePending_43 : decode cX2_removePending 43 = .ok (.iastore, 1) := by decide +kernel
theorem dX2_removePending_44 : decode cX2_removePending 44 = .ok (.iinc 2 1, 3) := by decide +kernel
theorem dX2_removePending_47 : decode cX2_removePending 47 = .ok (.iinc 4 1, 3) := by decide +kernel
theorem dX2_removePending_50 : decode cX2_removePending 50 = .ok (.goto (-35), 3) := by decide +kernel
theorem dX2_removePending_53 : decode cX2_removePending 53 = .ok (.aload_n 0, 1) := by decide +kernel
theorem dX2_removePending_54 : decode cX2_removePending 54 = .ok (.iload_n 2, 1) := by decide +kernel
theorem dX2_removePending_55 : decode cX2_removePending 55 = .ok (.putfield 48, 3) := by decide +kernel
theorem dX2_removePending_58 : decode cX2_removePending 58 = .ok (.return_, 1) := by decide +kernel
theorem dX3_init_0 : decode cX3_init 0 = .ok (.aload_n 0, 1) := by decide +kernel
theorem dX3_init_1 : decode cX3_init 1 = .ok (.invokespecial 3, 3) := by decide +kernel
theorem dX3_init_4 : decode cX3_init 4 = .ok (.aload_n 0, 1) := by decide +kernel
theorem dX3_init_5 : decode cX3_init 5 = .ok (.bipush 120, 2) := by decide +kernel
theorem dX3_init_7 : decode cX3_init 7 = .ok (.newarray .int, 2) := by decide +kernel
theorem dX3_init_9 : decode cX3_init 9 = .ok (.putfield 9, 3) := by decide +kernel
theorem dX3_init_12 : decode cX3_init 12 = .ok (.aload_n 0, 1) := by decide +kernel
theorem dX3_init_13 : decode cX3_init 13 = .ok (.bipush 62, 2) := by decide +kernel
theorem dX3_init_15 : decode cX3_init 15 = .ok (.newarray .int, 2) := by decide +kernel
theorem dX3_init_17 : decode cX3_init 17 = .ok (.putfield 15, 3) := by decide +kernel
theorem dX3_init_20 : decode cX3_init 20 = .ok (.aload_n 0, 1) := by decide +kernel
theorem dX3_init_21 : decode cX3_init 21 = .ok (.bipush 62, 2) := by decide +kernel
theorem dX3_init_23 : decode cX3_init 23 = .ok (.newarray .int, 2) := by decide +kernel
theorem dX3_init_25 : decode cX3_init 25 = .ok (.putfield 18, 3) := by decide +kernel
theorem dX3_init_28 : decode cX3_init 28 = .ok (.aload_n 0, 1) := by decide +kernel
theorem dX3_init_29 : decode cX3_init 29 = .ok (.bipush 62, 2) := by decide +kernel
theorem dX3_init_31 : decode cX3_init 31 = .ok (.newarray .int, 2) := by decide +kernel
theorem dX3_init_33 : decode cX3_init 33 = .ok (.putfield 21, 3) := by decide +kernel
theorem dX3_init_36 : decode cX3_init 36 = .ok (.aload_n 0, 1) := by decide +kernel
theorem dX3_init_37 : decode cX3_init 37 = .ok (.bipush 62, 2) := by decide +kernel
theorem dX3_init_39 : decode cX3_init 39 = .ok (.newarray .int, 2) := by decide +kernel
theorem dX3_init_41 : decode cX3_init 41 = .ok (.putfield 24, 3) := by decide +kernel
theorem dX3_init_44 : decode cX3_init 44 = .ok (.aload_n 0, 1) := by decide +kernel
theorem dX3_init_45 : decode cX3_init 45 = .ok (.iconst 0, 1) := by decide +kernel
theorem dX3_init_46 : decode cX3_init 46 = .ok (.putfield 27, 3) := by decide +kernel
theorem dX3_init_49 : decode cX3_init 49 = .ok (.aload_n 0, 1) := by decide +kernel
theorem dX3_init_50 : decode cX3_init 50 = .ok (.iconst 0, 1) := by decide +kernel
theorem dX3_init_51 : decode cX3_init 51 = .ok (.putfield 31, 3) := by decide +kernel
theorem dX3_init_54 : decode cX3_init 54 = .ok (.aload_n 0, 1) := by decide +kernel
theorem dX3_init_55 : decode cX3_init 55 = .ok (.aload_n 1, 1) := by decide +kernel
theorem dX3_init_56 : decode cX3_init 56 = .ok (.putfield 34, 3) := by decide +kernel
theorem dX3_init_59 : decode cX3_init 59 = .ok (.return_, 1) := by decide +kernel
theorem dX3_clear_0 : decode cX3_clear 0 = .ok (.aload_n 0, 1) := by decide +kernel
theorem dX3_clear_1 : decode cX3_clear 1 = .ok (.iconst 0, 1) := by decide +kernel
theorem dX3_clear_2 : decode cX3_clear 2 = .ok (.putfield 27, 3) := by decide +kernel
theorem dX3_clear_5 : decode cX3_clear 5 = .ok (.aload_n 0, 1) := by decide +kernel
theorem dX3_clear_6 : decode cX3_clear 6 = .ok (.iconst 1, 1) := by decide +kernel
theorem dX3_clear_7 : decode cX3_clear 7 = .ok (.putfield 31, 3) := by decide +kernel
theorem dX3_clear_10 : decode cX3_clear 10 = .ok (.aload_n 0, 1) := by decide +kernel
theorem dX3_clear_11 : decode cX3_clear 11 = .ok (.getfield 15, 3) := by decide +kernel
theorem dX3_clear_14 : decode cX3_clear 14 = .ok (.iconst 0, 1) := by decide +kernel
theorem dX3_clear_15 : decode cX3_clear 15 = .ok (.iconst 0, 1) := by decide +kernel
theorem dX3_clear_16 : decode cX3_clear 16 = .ok (.iastore, 1) := by decide +kernel
theorem dX3_clear_17 : decode cX3_clear 17 = .ok (.aload_n 0, 1) := by decide +kernel
theorem dX3_clear_18 : decode cX3_clear 18 = .ok (.getfield 18, 3) := by decide +kernel
theorem dX3_clear_21 : decode cX3_clear 21 = .ok (.iconst 0, 1) := by decide +kernel
theorem dX3_clear_22 : decode cX3_clear 22 = .ok (.iconst 0, 1) := by decide +kernel
theorem dX3_clear_23 : decode cX3_clear 23 = .ok (.iastore, 1) := by decide +kernel
theorem dX3_clear_24 : decode cX3_clear 24 = .ok (.aload_n 0, 1) := by decide +kernel
theorem dX3_clear_25 : decode cX3_clear 25 = .ok (.getfield 21, 3) := by decide +kernel
theorem dX3_clear_28 : decode cX3_clear 28 = .ok (.iconst 0, 1) := by decide +kernel
theorem dX3_clear_29 : decode cX3_clear 29 = .ok (.iconst 0, 1) := by decide +kernel
theorem dX3_clear_30 : decode cX3_clear 30 = .ok (.iastore, 1) := by decide +kernel
theorem dX3_clear_31 : decode cX3_clear 31 = .ok (.aload_n 0, 1) := by decide +kernel
theorem dX3_clear_32 : decode cX3_clear 32 = .ok (.getfield 24, 3) := by decide +kernel
theorem dX3_clear_35 : decode cX3_clear 35 = .ok (.iconst 0, 1) := by decide +kernel
theorem dX3_clear_36 : decode cX3_clear 36 = .ok (.iconst 0, 1) := by decide +kernel
theorem dX3_clear_37 : decode cX3_clear 37 = .ok (.iastore, 1) := by decide +kernel
theorem dX3_clear_38 : decode cX3_clear 38 = .ok (.return_, 1) := by decide +kernel
set_option maxRecDepth 20000 in
theorem ggX3_become_X7_copyAll : GoodIn wsX3_become wsX7_copyAll := goodIn_r _ [10, 11, 12, 13, 14, 15, 16, 17, 18] (by decide +kernel) (by decide +kernel)
set_option maxRecDepth 20000 in
theorem gX3_become_X7_copyAll_n38 : GoodIn wsX3_become (wsX7_copyAll) := ggX3_become_X7_copyAll
theorem dX3_become_0 : decode cX3_become 0 = .ok (.aload_n 1, 1) := by decide +kernel
theorem dX3_become_1 : decode cX3_become 1 = .ok (.getfield 9, 3) := by decide +kernel
theorem dX3_become_4 : decode cX3_become 4 = .ok (.aload_n 0, 1) := by decide +kernel
theorem dX3_become_5 : decode cX3_become 5 = .ok (.getfield 9, 3) := by decide +kernel
theorem dX3_become_8 : decode cX3_become 8 = .ok (.invokestatic 38, 3) := by decide +kernel
theorem dX3_become_11 : decode cX3_become 11 = .ok (.aload_n 1, 1) := by decide +kernel
theorem dX3_become_12 : decode cX3_become 12 = .ok (.getfield 15, 3) := by decide +kernel
theorem dX3_become_15 : decode cX3_become 15 = .ok (.aload_n 0, 1) := by decide +kernel
theorem dX3_become_16 : decode cX3_become 16 = .ok (.getfield 15, 3) := by decide +kernel
theorem dX3_become_19 : decode cX3_become 19 = .ok (.invokestatic 38, 3) := by decide +kernel
theorem dX3_become_22 : decode cX3_become 22 = .ok (.aload_n 1, 1) := by decide +kernel
theorem dX3_become_23 : decode cX3_become 23 = .ok (.getfield 18, 3) := by decide +kernel
theorem dX3_become_26 : decode cX3_become 26 = .ok (.aload_n 0, 1) := by decide +kernel
theorem dX3_become_27 : decode cX3_become 27 = .ok (.getfield 18, 3) := by decide +kernel
theorem dX3_become_30 : decode cX3_become 30 = .ok (.invokestatic 38, 3) := by decide +kernel
theorem dX3_become_33 : decode cX3_become 33 = .ok (.aload_n 1, 1) := by decide +kernel
theorem dX3_become_34 : decode cX3_become 34 = .ok (.getfield 21, 3) := by decide +kernel
theorem dX3_become_37 : decode cX3_become 37 = .ok (.aload_n 0, 1) := by decide +kernel
theorem dX3_become_38 : decode cX3_become 38 = .ok (.getfield 21, 3) := by decide +kernel
theorem dX3_become_41 : decode cX3_become 41 = .ok (.invokestatic 38, 3) := by decide +kernel
theorem dX3_become_44 : decode cX3_become 44 = .ok (.aload_n 1, 1) := by decide +kernel
theorem dX3_become_45 : decode cX3_become 45 = .ok (.getfield 24, 3) := by decide +kernel
theorem dX3_become_48 : decode cX3_become 48 = .ok (.aload_n 0, 1) := by decide +kernel
theorem dX3_become_49 : decode cX3_become 49 = .ok (.getfield 24, 3) := by decide +kernel
theorem dX3_become_52 : decode cX3_become 52 = .ok (.invokestatic 38, 3) := by decide +kernel
theorem dX3_become_55 : decode cX3_become 55 = .ok (.aload_n 0, 1) := by decide +kernel
theorem dX3_become_56 : decode cX3_become 56 = .ok (.aload_n 1, 1) := by decide +kernel
theorem dX3_become_57 : decode cX3_become 57 = .ok (.getfield 27, 3) := by decide +kernel
theorem dX3_become_60 : decode cX3_become 60 = .ok (.putfield 27, 3) := by decide +kernel
theorem dX3_become_63 : decode cX3_become 63 = .ok (.aload_n 0, 1) := by decide +kernel
theorem dX3_become_64 : decode cX3_become 64 = .ok (.aload_n 1, 1) := by decide +kernel
theorem dX3_become_65 : decode cX3_become 65 = .ok (.getfield 31, 3) := by decide +kernel
theorem dX3_become_68 : decode cX3_become 68 = .ok (.putfield 31, 3) := by decide +kernel
theorem dX3_become_71 : decode cX3_become 71 = .ok (.return_, 1) := by decide +kernel
theorem dX3_has_0 : decode cX3_has 0 = .ok (.iload_n 1, 1) := by decide +kernel
theorem dX3_has_1 : decode cX3_has 1 = .ok (.ifCond .lt 21, 3) := by decide +kernel
theorem dX3_has_4 : decode cX3_has 4 = .ok (.iload_n 1, 1) := by decide +kernel
theorem dX3_has_5 : decode cX3_has 5 = .ok (.aload_n 0, 1) := by decide +kernel
theorem dX3_has_6 : decode cX3_has 6 = .ok (.getfield 31, 3) := by decide +kernel
theorem dX3_has_9 : decode cX3_has 9 = .ok (.if_icmp .ge 13, 3) := by decide +kernel
theorem dX3_has_12 : decode cX3_has 12 = .ok (.iload_n 1, 1) := by decide +kernel
theorem dX3_has_13 : decode cX3_has 13 = .ok (.bipush 62, 2) := by decide +kernel
theorem dX3_has_15 : decode cX3_has 15 = .ok (.if_icmp .ge 7, 3) := by decide +kernel
theorem dX3_has_18 : decode cX3_has 18 = .ok (.iconst 1, 1) := by decide +kernel
theorem dX3_has_19 : decode cX3_has 19 = .ok (.goto 4, 3) := by decide +kernel
theorem dX3_has_22 : decode cX3_has 22 = .ok (.iconst 0, 1) := by decide +kernel
theorem dX3_has_23 : decode cX3_has 23 = .ok (.ireturn, 1) := by decide +kernel
set_option maxRecDepth 20000 in
theorem ggX3_boundOf_X3_has : GoodIn wsX3_boundOf wsX3_has := goodIn_r _ [6, 7, 8, 9, 10, 11, 12, 13, 14, 15] (by decide +kernel) (by decide +kernel)
set_option maxRecDepth 20000 in
theorem gX3_boundOf_X3_has : GoodIn wsX3_boundOf (wsV RX3 42 RX3 yX3_has wsX3_has) := goodIn_app (goodIn_of _ (by decide +kernel)) ggX3_boundOf_X3_has
theorem dX3_boundOf_0 : decode cX3_boundOf 0 = .ok (.aload_n 0, 1) := by decide +kernel
theorem dX3_boundOf_1 : decode cX3_boundOf 1 = .ok (.iload_n 1, 1) := by decide +kernel
theorem dX3_boundOf_2 : decode cX3_boundOf 2 = .ok (.invokevirtual 42, 3) := by decide +kernel
theorem dX3_boundOf_5 : decode cX3_boundOf 5 = .ok (.ifCond .eq 12, 3) := by decide +kernel
theorem dX3_boundOf_8 : decode cX3_boundOf 8 = .ok (.aload_n 0, 1) := by decide +kernel
theorem dX3_boundOf_9 : decode cX3_boundOf 9 = .ok (.getfield 15, 3) := by decide +kernel
theorem dX3_boundOf_12 : decode cX3_boundOf 12 = .ok (.iload_n 1, 1) := by decide +kernel
theorem dX3_boundOf_13 : decode cX3_boundOf 13 = .ok (.iaload, 1) := by decide +kernel
theorem dX3_boundOf_14 : decode cX3_boundOf 14 = .ok (.goto 6, 3) := by decide +kernel
theorem dX3_boundOf_17 : decode cX3_boundOf 17 = .ok (.sipush 10000, 3) := by decide +kernel
theorem dX3_boundOf_20 : decode cX3_boundOf 20 = .ok (.ireturn, 1) := by decide +kernel
set_option maxRecDepth 20000 in
theorem ggX3_startOf_X3_has : GoodIn wsX3_startOf wsX3_has := goodIn_r _ [7, 8, 9, 10, 11, 12, 13, 14, 15, 16] (by decide +kernel) (by decide +kernel)
set_option maxRecDepth 20000 in
theorem gX3_startOf_X3_has : GoodIn wsX3_startOf (wsV RX3 42 RX3 yX3_has wsX3_has) := goodIn_app (goodIn_of _ (by decide +kernel)) ggX3_startOf_X3_has
theorem dX3_startOf_0 : decode cX3_startOf 0 = .ok (.aload_n 0, 1) := by decide +kernel
theorem dX3_startOf_1 : decode cX3_startOf 1 = .ok (.iload_n 1, 1) := by decide +kernel
theorem dX3_startOf_2 : decode cX3_startOf 2 = .ok (.invokevirtual 42, 3) := by decide +kernel
theorem dX3_startOf_5 : decode cX3_startOf 5 = .ok (.ifCond .eq 12, 3) := by decide +kernel
theorem dX3_startOf_8 : decode cX3_startOf 8 = .ok (.aload_n 0, 1) := by decide +kernel
theorem dX3_startOf_9 : decode cX3_startOf 9 = .ok (.getfield 18, 3) := by decide +kernel
theorem dX3_startOf_12 : decode cX3_startOf 12 = .ok (.iload_n 1, 1) := by decide +kernel
theorem dX3_startOf_13 : decode cX3_startOf 13 = .ok (.iaload, 1) := by decide +kernel
theorem dX3_startOf_14 : decode cX3_startOf 14 = .ok (.goto 7, 3) := by decide +kernel
theorem dX3_startOf_17 : decode cX3_startOf 17 = .ok (.aload_n 0, 1) := by decide +kernel
theorem dX3_startOf_18 : decode cX3_startOf 18 = .ok (.getfield 27, 3) := by decide +kernel
theorem dX3_startOf_21 : decode cX3_startOf 21 = .ok (.ireturn, 1) := by decide +kernel
set_option maxRecDepth 20000 in
theorem ggX3_sizeOf_X3_startOf : GoodIn wsX3_sizeOf wsX3_startOf := goodIn_r _ [5, 6, 7, 8, 9, 10, 4, 11, 12, 13, 14, 15, 16, 17, 18, 19, 20] (by decide +kernel) (by decide +kernel)
set_option maxRecDepth 20000 in
theorem gX3_sizeOf_X3_startOf : GoodIn wsX3_sizeOf (wsV RX3 46 RX3 yX3_startOf wsX3_startOf) := goodIn_app (goodIn_of _ (by decide +kernel)) ggX3_sizeOf_X3_startOf
theorem dX3_sizeOf_0 : decode cX3_sizeOf 0 = .ok (.aload_n 0, 1) := by decide +kernel
theorem dX3_sizeOf_1 : decode cX3_sizeOf 1 = .ok (.iload_n 1, 1) := by decide +kernel
theorem dX3_sizeOf_2 : decode cX3_sizeOf 2 = .ok (.iconst 1, 1) := by decide +kernel
theorem dX3_sizeOf_3 : decode cX3_sizeOf 3 = .ok (.iadd, 1) := by decide +kernel
theorem dX3_sizeOf_4 : decode cX3_sizeOf 4 = .ok (.invokevirtual 46, 3) := by decide +kernel
theorem dX3_sizeOf_7 : decode cX3_sizeOf 7 = .ok (.aload_n 0, 1) := by decide +kernel
theorem dX3_sizeOf_8 : decode cX3_sizeOf 8 = .ok (.iload_n 1, 1) := by decide +kernel
theorem dX3_sizeOf_9 : decode cX3_sizeOf 9 = .ok (.invokevirtual 46, 3) := by decide +kernel
theorem dX3_sizeOf_12 : decode cX3_sizeOf 12 = .ok (.isub, 1) := by decide +kernel
theorem dX3_sizeOf_13 : decode cX3_sizeOf 13 = .ok (.ireturn, 1) := by decide +kernel
set_option maxRecDepth 20000 in
theorem ggX3_heatOf_X3_has : GoodIn wsX3_heatOf wsX3_has := goodIn_r _ [6, 7, 8, 9, 10, 11, 12, 13, 14, 15] (by decide +kernel) (by decide +kernel)
set_option maxRecDepth 20000 in
theorem gX3_heatOf_X3_has : GoodIn wsX3_heatOf (wsV RX3 42 RX3 yX3_has wsX3_has) := goodIn_app (goodIn_of _ (by decide +kernel)) ggX3_heatOf_X3_has
theorem dX3_heatOf_0 : decode cX3_heatOf 0 = .ok (.aload_n 0, 1) := by decide +kernel
theorem dX3_heatOf_1 : decode cX3_heatOf 1 = .ok (.iload_n 1, 1) := by decide +kernel
theorem dX3_heatOf_2 : decode cX3_heatOf 2 = .ok (.invokevirtual 42, 3) := by decide +kernel
theorem dX3_heatOf_5 : decode cX3_heatOf 5 = .ok (.ifCond .eq 12, 3) := by decide +kernel
theorem dX3_heatOf_8 : decode cX3_heatOf 8 = .ok (.aload_n 0, 1) := by decide +kernel
theorem dX3_heatOf_9 : decode cX3_heatOf 9 = .ok (.getfield 21, 3) := by decide +kernel
theorem dX3_heatOf_12 : decode cX3_heatOf 12 = .ok (.iload_n 1, 1) := by decide +kernel
theorem dX3_heatOf_13 : decode cX3_heatOf 13 = .ok (.iaload, 1) := by decide +kernel
theorem dX3_heatOf_14 : decode cX3_heatOf 14 = .ok (.goto 4, 3) := by decide +kernel
theorem dX3_heatOf_17 : decode cX3_heatOf 17 = .ok (.iconst 0, 1) := by decide +kernel
theorem dX3_heatOf_18 : decode cX3_heatOf 18 = .ok (.ireturn, 1) := by decide +kernel
set_option maxRecDepth 20000 in
theorem ggX3_isSorted_X3_has : GoodIn wsX3_isSorted wsX3_has := goodIn_r _ [6, 7, 8, 9, 10, 11, 12, 13, 14, 15] (by decide +kernel) (by decide +kernel)
set_option maxRecDepth 20000 in
theorem gX3_isSorted_X3_has : GoodIn wsX3_isSorted (wsV RX3 42 RX3 yX3_has wsX3_has) := goodIn_app (goodIn_of _ (by decide +kernel)) ggX3_isSorted_X3_has
theorem dX3_isSorted_0 : decode cX3_isSorted 0 = .ok (.aload_n 0, 1) := by decide +kernel
theorem dX3_isSorted_1 : decode cX3_isSorted 1 = .ok (.iload_n 1, 1) := by decide +kernel
theorem dX3_isSorted_2 : decode cX3_isSorted 2 = .ok (.invokevirtual 42, 3) := by decide +kernel
theorem dX3_isSorted_5 : decode cX3_isSorted 5 = .ok (.ifCond .eq 17, 3) := by decide +kernel
theorem dX3_isSorted_8 : decode cX3_isSorted 8 = .ok (.aload_n 0, 1) := by decide +kernel
theorem dX3_isSorted_9 : decode cX3_isSorted 9 = .ok (.getfield 24, 3) := by decide +kernel
theorem dX3_isSorted_12 : decode cX3_isSorted 12 = .ok (.iload_n 1, 1) := by decide +kernel
theorem dX3_isSorted_13 : decode cX3_isSorted 13 = .ok (.iaload, 1) := by decide +kernel
theorem dX3_isSorted_14 : decode cX3_isSorted 14 = .ok (.iconst 1, 1) := by decide +kernel
theorem dX3_isSorted_15 : decode cX3_isSorted 15 = .ok (.if_icmp .ne 7, 3) := by decide +kernel
theorem dX3_isSorted_18 : decode cX3_isSorted 18 = .ok (.iconst 1, 1) := by decide +kernel
theorem dX3_isSorted_19 : decode cX3_isSorted 19 = .ok (.goto 4, 3) := by decide +kernel
theorem dX3_isSorted_22 : decode cX3_isSorted 22 = .ok (.iconst 0, 1) := by decide +kernel
theorem dX3_isSorted_23 : decode cX3_isSorted 23 = .ok (.ireturn, 1) := by decide +kernel
set_option maxRecDepth 20000 in
theorem ggX3_sortedPieces_X3_isSorted : GoodIn wsX3_sortedPieces wsX3_isSorted := goodIn_r _ [6, 7, 8, 9, 10, 5, 11, 1, 12, 13, 14, 15, 16, 17, 18, 19] (by decide +kernel) (by decide +kernel)
set_option maxRecDepth 20000 in
theorem gX3_sortedPieces_X3_isSorted : GoodIn wsX3_sortedPieces (wsV RX3 50 RX3 yX3_isSorted wsX3_isSorted) := goodIn_app (goodIn_of _ (by decide +kernel)) ggX3_sortedPieces_X3_isSorted
theorem dX3_sortedPieces_0 : decode cX3_sortedPieces 0 = .ok (.iconst 0, 1) := by decide +kernel
theorem dX3_sortedPieces_1 : decode cX3_sortedPieces 1 = .ok (.istore_n 1, 1) := by decide +kernel
theorem dX3_sortedPieces_2 : decode cX3_sortedPieces 2 = .ok (.iconst 0, 1) := by decide +kernel
theorem dX3_sortedPieces_3 : decode cX3_sortedPieces 3 = .ok (.istore_n 2, 1) := by decide +kernel
theorem dX3_sortedPieces_4 : decode cX3_sortedPieces 4 = .ok (.iload_n 2, 1) := by decide +kernel
theorem dX3_sortedPieces_5 : decode cX3_sortedPieces 5 = .ok (.aload_n 0, 1) := by decide +kernel
theorem dX3_sortedPieces_6 : decode cX3_sortedPieces 6 = .ok (.getfield 31, 3) := by decide +kernel
theorem dX3_sortedPieces_9 : decode cX3_sortedPieces 9 = .ok (.if_icmp .ge 25, 3) := by decide +kernel
theorem dX3_sortedPieces_12 : decode cX3_sortedPieces 12 = .ok (.iload_n 1, 1) := by decide +kernel
theorem dX3_sortedPieces_13 : decode cX3_sortedPieces 13 = .ok (.aload_n 0, 1) := by decide +kernel
theorem dX3_sortedPieces_14 : decode cX3_sortedPieces 14 = .ok (.iload_n 2, 1) := by decide +kernel
theorem dX3_sortedPieces_15 : decode cX3_sortedPieces 15 = .ok (.invokevirtual 50, 3) := by decide +kernel
theorem dX3_sortedPieces_18 : decode cX3_sortedPieces 18 = .ok (.ifCond .eq 7, 3) := by decide +kernel
theorem dX3_sortedPieces_21 : decode cX3_sortedPieces 21 = .ok (.iconst 1, 1) := by decide +kernel
theorem dX3_sortedPieces_22 : decode cX3_sortedPieces 22 = .ok (.goto 4, 3) := by decide +kernel
theorem dX3_sortedPieces_25 : decode cX3_sortedPieces 25 = .ok (.iconst 0, 1) := by decide +kernel
theorem dX3_sortedPieces_26 : decode cX3_sortedPieces 26 = .ok (.iadd, 1) := by decide +kernel
theorem dX3_sortedPieces_27 : decode cX3_sortedPieces 27 = .ok (.istore_n 1, 1) := by decide +kernel
theorem dX3_sortedPieces_28 : decode cX3_sortedPieces 28 = .ok (.iinc 2 1, 3) := by decide +kernel
theorem dX3_sortedPieces_31 : decode cX3_sortedPieces 31 = .ok (.goto (-27), 3) := by decide +kernel
theorem dX3_sortedPieces_34 : decode cX3_sortedPieces 34 = .ok (.iload_n 1, 1) := by decide +kernel
theorem dX3_sortedPieces_35 : decode cX3_sortedPieces 35 = .ok (.ireturn, 1) := by decide +kernel
theorem dX3_rowAt_0 : decode cX3_rowAt 0 = .ok (.iload_n 1, 1) := by decide +kernel
theorem dX3_rowAt_1 : decode cX3_rowAt 1 = .ok (.ifCond .lt 26, 3) := by decide +kernel
theorem dX3_rowAt_4 : decode cX3_rowAt 4 = .ok (.iload_n 1, 1) := by decide +kernel
theorem dX3_rowAt_5 : decode cX3_rowAt 5 = .ok (.aload_n 0, 1) := by decide +kernel
theorem dX3_rowAt_6 : decode cX3_rowAt 6 = .ok (.getfield 27, 3) := by decide +kernel
theorem dX3_rowAt_9 : decode cX3_rowAt 9 = .ok (.if_icmp .ge 18, 3) := by decide +kernel
theorem dX3_rowAt_12 : decode cX3_rowAt 12 = .ok (.iload_n 1, 1) := by decide +kernel
theorem dX3_rowAt_13 : decode cX3_rowAt 13 = .ok (.bipush 120, 2) := by decide +kernel
theorem dX3_rowAt_15 : decode cX3_rowAt 15 = .ok (.if_icmp .ge 12, 3) := by decide +kernel
theorem dX3_rowAt_18 : decode cX3_rowAt 18 = .ok (.aload_n 0, 1) := by decide +kernel
theorem dX3_rowAt_19 : decode cX3_rowAt 19 = .ok (.getfield 9, 3) := by decide +kernel
theorem dX3_rowAt_22 : decode cX3_rowAt 22 = .ok (.iload_n 1, 1) := by decide +kernel
theorem dX3_rowAt_23 : decode cX3_rowAt 23 = .ok (.iaload, 1) := by decide +kernel
theorem dX3_rowAt_24 : decode cX3_rowAt 24 = .ok (.goto 4, 3) := by decide +kernel
theorem dX3_rowAt_27 : decode cX3_rowAt 27 = .ok (.iconst (-1), 1) := by decide +kernel
theorem dX3_rowAt_28 : decode cX3_rowAt 28 = .ok (.ireturn, 1) := by decide +kernel
set_option maxRecDepth 20000 in
theorem ggX3_keyAt_X3_rowAt : GoodIn wsX3_keyAt wsX3_rowAt := goodIn_r _ [6, 7, 8, 15, 16, 17, 18, 19, 20, 21, 22] (by decide +kernel) (by decide +kernel)
set_option maxRecDepth 20000 in
theorem gX3_keyAt_X3_rowAt : GoodIn wsX3_keyAt (wsV RX3 53 RX3 yX3_rowAt wsX3_rowAt) := goodIn_app (goodIn_of _ (by decide +kernel)) ggX3_keyAt_X3_rowAt
set_option maxRecDepth 20000 in
theorem ggX3_keyAt_X6_keyOf : GoodIn wsX3_keyAt wsX6_keyOf := goodIn_r _ [13, 14, 23, 24, 25, 26] (by decide +kernel) (by decide +kernel)
set_option maxRecDepth 20000 in
theorem gX3_keyAt_X6_keyOf : GoodIn wsX3_keyAt (wsV RX3 56 RX6 yX6_keyOf wsX6_keyOf) := goodIn_app (goodIn_of _ (by decide +kernel)) ggX3_keyAt_X6_keyOf
theorem dX3_keyAt_0 : decode cX3_keyAt 0 = .ok (.aload_n 0, 1) := by decide +kernel
theorem dX3_keyAt_1 : decode cX3_keyAt 1 = .ok (.getfield 34, 3) := by decide +kernel
theorem dX3_keyAt_4 : decode cX3_keyAt 4 = .ok (.aload_n 0, 1) := by decide +kernel
theorem dX3_keyAt_5 : decode cX3_keyAt 5 = .ok (.iload_n 1, 1) := by decide +kernel
theorem dX3_keyAt_6 : decode cX3_keyAt 6 = .ok (.invokevirtual 53, 3) := by decide +kernel
theorem dX3_keyAt_9 : decode cX3_keyAt 9 = .ok (.invokevirtual 56, 3) := by decide +kernel
theorem dX3_keyAt_12 : decode cX3_keyAt 12 = .ok (.ireturn, 1) := by decide +kernel
set_option maxRecDepth 20000 in
theorem ggX3_placeOf_X3_rowAt : GoodIn wsX3_placeOf wsX3_rowAt := goodIn_r _ [6, 1, 7, 8, 9, 10, 11, 12, 13, 14, 15] (by decide +kernel) (by decide +kernel)
set_option maxRecDepth 20000 in
theorem gX3_placeOf_X3_rowAt : GoodIn wsX3_placeOf (wsV RX3 53 RX3 yX3_rowAt wsX3_rowAt) := goodIn_app (goodIn_of _ (by decide +kernel)) ggX3_placeOf_X3_rowAt
theorem dX3_placeOf_0 : decode cX3_placeOf 0 = .ok (.iconst 0, 1) := by decide +kernel
theorem dX3_placeOf_1 : decode cX3_placeOf 1 = .ok (.istore_n 2, 1) := by decide +kernel
theorem dX3_placeOf_2 : decode cX3_placeOf 2 = .ok (.iload_n 2, 1) := by decide +kernel
theorem dX3_placeOf_3 : decode cX3_placeOf 3 = .ok (.aload_n 0, 1) := by decide +kernel
theorem dX3_placeOf_4 : decode cX3_placeOf 4 = .ok (.getfield 27, 3) := by decide +kernel
theorem dX3_placeOf_7 : decode cX3_placeOf 7 = .ok (.if_icmp .ge 20, 3) := by decide +kernel
theorem dX3_placeOf_10 : decode cX3_placeOf 10 = .ok (.aload_n 0, 1) := by decide +kernel
theorem dX3_placeOf_11 : decode cX3_placeOf 11 = .ok (.iload_n 2, 1) := by decide +kernel
theorem dX3_placeOf_12 : decode cX3_placeOf 12 = .ok (.invokevirtual 53, 3) := by decide +kernel
theorem dX3_placeOf_15 : decode cX3_placeOf 15 = .ok (.iload_n 1, 1) := by decide +kernel
theorem dX3_placeOf_16 : decode cX3_placeOf 16 = .ok (.if_icmp .ne 5, 3) := by decide +kernel
theorem dX3_placeOf_19 : decode cX3_placeOf 19 = .ok (.iload_n 2, 1) := by decide +kernel
theorem dX3_placeOf_20 : decode cX3_placeOf 20 = .ok (.ireturn, 1) := by decide +kernel
theorem dX3_placeOf_21 : decode cX3_placeOf 21 = .ok (.iinc 2 1, 3) := by decide +kernel
theorem dX3_placeOf_24 : decode cX3_placeOf 24 = .ok (.goto (-22), 3) := by decide +kernel
theorem dX3_placeOf_27 : decode cX3_placeOf 27 = .ok (.iconst (-1), 1) := by decide +kernel
theorem dX3_placeOf_28 : decode cX3_placeOf 28 = .ok (.ireturn, 1) := by decide +kernel
theorem dX3_pieceFor_0 : decode cX3_pieceFor 0 = .ok (.iconst 0, 1) := by decide +kernel
theorem dX3_pieceFor_1 : decode cX3_pieceFor 1 = .ok (.istore_n 2, 1) := by decide +kernel
theorem dX3_pieceFor_2 : decode cX3_pieceFor 2 = .ok (.iconst 1, 1) := by decide +kernel
theorem dX3_pieceFor_3 : decode cX3_pieceFor 3 = .ok (.istore_n 3, 1) := by decide +kernel
theorem dX3_pieceFor_4 : decode cX3_pieceFor 4 = .ok (.iload_n 3, 1) := by decide +kernel
theorem dX3_pieceFor_5 : decode cX3_pieceFor 5 = .ok (.aload_n 0, 1) := by decide +kernel
theorem dX3_pieceFor_6 : decode cX3_pieceFor 6 = .ok (.getfield 31, 3) := by decide +kernel
theorem dX3_pieceFor_9 : decode cX3_pieceFor 9 = .ok (.if_icmp .ge 27, 3) := by decide +kernel
theorem dX3_pieceFor_12 : decode cX3_pieceFor 12 = .ok (.iload_n 3, 1) := by decide +kernel
theorem dX3_pieceFor_13 : decode cX3_pieceFor 13 = .ok (.bipush 62, 2) := by decide +kernel
theorem dX3_pieceFor_15 : decode cX3_pieceFor 15 = .ok (.if_icmp .ge 21, 3) := by decide +kernel
theorem dX3_pieceFor_18 : decode cX3_pieceFor 18 = .ok (.aload_n 0, 1) := by decide +kernel
theorem dX3_pieceFor_19 : decode cX3_pieceFor 19 = .ok (.getfield 15, 3) := by decide +kernel
theorem dX3_pieceFor_22 : decode cX3_pieceFor 22 = .ok (.iload_n 3, 1) := by decide +kernel
theorem dX3_pieceFor_23 : decode cX3_pieceFor 23 = .ok (.iaload, 1) := by decide +kernel
theorem dX3_pieceFor_24 : decode cX3_pieceFor 24 = .ok (.iload_n 1, 1) := by decide +kernel
theorem dX3_pieceFor_25 : decode cX3_pieceFor 25 = .ok (.if_icmp .gt 5, 3) := by decide +kernel
theorem dX3_pieceFor_28 : decode cX3_pieceFor 28 = .ok (.iload_n 3, 1) := by decide +kernel
theorem dX3_pieceFor_29 : decode cX3_pieceFor 29 = .ok (.istore_n 2, 1) := by decide +kernel
theorem dX3_pieceFor_30 : decode cX3_pieceFor 30 = .ok (.iinc 3 1, 3) := by decide +kernel
theorem dX3_pieceFor_33 : decode cX3_pieceFor 33 = .ok (.goto (-29), 3) := by decide +kernel
theorem dX3_pieceFor_36 : decode cX3_pieceFor 36 = .ok (.iload_n 2, 1) := by decide +kernel
theorem dX3_pieceFor_37 : decode cX3_pieceFor 37 = .ok (.ireturn, 1) := by decide +kernel
set_option maxRecDepth 20000 in
theorem ggX3_descentsOf_X3_startOf : GoodIn wsX3_descentsOf wsX3_startOf := goodIn_r _ [5, 6, 7, 8, 9, 10, 4, 11, 12, 29, 30, 31, 32, 33, 34, 35, 36] (by decide +kernel) (by decide +kernel)
set_option maxRecDepth 20000 in
theorem gX3_descentsOf_X3_startOf : GoodIn wsX3_descentsOf (wsV RX3 46 RX3 yX3_startOf wsX3_startOf) := goodIn_app (goodIn_of _ (by decide +kernel)) ggX3_descentsOf_X3_startOf
set_option maxRecDepth 20000 in
theorem ggX3_descentsOf_X3_keyAt : GoodIn wsX3_descentsOf wsX3_keyAt := goodIn_r _ [16, 17, 18, 19, 20, 4, 21, 7, 22, 23, 24, 25, 26, 27, 28, 29, 30, 31, 32, 33, 34, 35, 36, 37, 38, 39, 40] (by decide +kernel) (by decide +kernel)
set_option maxRecDepth 20000 in
theorem gX3_descentsOf_X3_keyAt : GoodIn wsX3_descentsOf (wsV RX3 61 RX3 yX3_keyAt wsX3_keyAt) := goodIn_app (goodIn_of _ (by decide +kernel)) ggX3_descentsOf_X3_keyAt
theorem dX3_descentsOf_0 : decode cX3_descentsOf 0 = .ok (.iconst 0, 1) := by decide +kernel
theorem dX3_descentsOf_1 : decode cX3_descentsOf 1 = .ok (.istore_n 2, 1) := by decide +kernel
theorem dX3_descentsOf_2 : decode cX3_descentsOf 2 = .ok (.aload_n 0, 1) := by decide +kernel
theorem dX3_descentsOf_3 : decode cX3_descentsOf 3 = .ok (.iload_n 1, 1) := by decide +kernel
theorem dX3_descentsOf_4 : decode cX3_descentsOf 4 = .ok (.iconst 1, 1) := by decide +kernel
theorem dX3_descentsOf_5 : decode cX3_descentsOf 5 = .ok (.iadd, 1) := by decide +kernel
theorem dX3_descentsOf_6 : decode cX3_descentsOf 6 = .ok (.invokevirtual 46, 3) := by decide +kernel
theorem dX3_descentsOf_9 : decode cX3_descentsOf 9 = .ok (.iconst 1, 1) := by decide +kernel
theorem dX3_descentsOf_10 : decode cX3_descentsOf 10 = .ok (.isub, 1) := by decide +kernel
theorem dX3_descentsOf_11 : decode cX3_descentsOf 11 = .ok (.istore_n 3, 1) := by decide +kernel
theorem dX3_descentsOf_12 : decode cX3_descentsOf 12 = .ok (.aload_n 0, 1) := by decide +kernel
theorem dX3_descentsOf_13 : decode cX3_descentsOf 13 = .ok (.iload_n 1, 1) := by decide +kernel
theorem dX3_descentsOf_14 : decode cX3_descentsOf 14 = .ok (.invokevirtual 46, 3) := by decide +kernel
theorem dX3_descentsOf_17 : decode cX3_descentsOf 17 = .ok (.istore 4, 2) := by decide +kernel
theorem dX3_descentsOf_19 : decode cX3_descentsOf 19 = .ok (.iload 4, 2) := by decide +kernel
theorem dX3_descentsOf_21 : decode cX3_descentsOf 21 = .ok (.iload_n 3, 1) := by decide +kernel
theorem dX3_descentsOf_22 : decode cX3_descentsOf 22 = .ok (.if_icmp .ge 34, 3) := by decide +kernel
theorem dX3_descentsOf_25 : decode cX3_descentsOf 25 = .ok (.iload_n 2, 1) := by decide +kernel
theorem dX3_descentsOf_26 : decode cX3_descentsOf 26 = .ok (.aload_n 0, 1) := by decide +kernel
theorem dX3_descentsOf_27 : decode cX3_descentsOf 27 = .ok (.iload 4, 2) := by decide +kernel
theorem dX3_descentsOf_29 : decode cX3_descentsOf 29 = .ok (.invokevirtual 61, 3) := by decide +kernel
theorem dX3_descentsOf_32 : decode cX3_descentsOf 32 = .ok (.aload_n 0, 1) := by decide +kernel
theorem dX3_descentsOf_33 : decode cX3_descentsOf 33 = .ok (.iload 4, 2) := by decide +kernel
theorem dX3_descentsOf_35 : decode cX3_descentsOf 35 = .ok (.iconst 1, 1) := by decide +kernel
theorem dX3_descentsOf_36 : decode cX3_descentsOf 36 = .ok (.iadd, 1) := by decide +kernel
theorem dX3_descentsOf_37 : decode cX3_descentsOf 37 = .ok (.invokevirtual 61, 3) := by decide +kernel
theorem dX3_descentsOf_40 : decode cX3_descentsOf 40 = .ok (.if_icmp .le 7, 3) := by decide +kernel
theorem dX3_descentsOf_43 : decode cX3_descentsOf 43 = .ok (.iconst 1, 1) := by decide +kernel
theorem dX3_descentsOf_44 : decode cX3_descentsOf 44 = .ok (.goto 4, 3) := by decide +kernel
theorem dX3_descentsOf_47 : decode cX3_descentsOf 47 = .ok (.iconst 0, 1) := by decide +kernel
theorem dX3_descentsOf_48 : decode cX3_descentsOf 48 = .ok (.iadd, 1) := by decide +kernel
theorem dX3_descentsOf_49 : decode cX3_descentsOf 49 = .ok (.istore_n 2, 1) := by decide +kernel
theorem dX3_descentsOf_50 : decode cX3_descentsOf 50 = .ok (.iinc 4 1, 3) := by decide +kernel
theorem dX3_descentsOf_53 : decode cX3_descentsOf 53 = .ok (.goto (-34), 3) := by decide +kernel
theorem dX3_descentsOf_56 : decode cX3_descentsOf 56 = .ok (.iload_n 2, 1) := by decide +kernel
theorem dX3_descentsOf_57 : decode cX3_descentsOf 57 = .ok (.ireturn, 1) := by decide +kernel
set_option maxRecDepth 20000 in
theorem ggX3_putIn_X6_keyOf : GoodIn wsX3_putIn wsX6_keyOf := goodIn_r _ [12, 13, 63, 64, 65, 66] (by decide +kernel) (by decide +kernel)
set_option maxRecDepth 20000 in
theorem gX3_putIn_X6_keyOf : GoodIn wsX3_putIn (wsV RX3 56 RX6 yX6_keyOf wsX6_keyOf) := goodIn_app (goodIn_of _ (by decide +kernel)) ggX3_putIn_X6_keyOf
set_option maxRecDepth 20000 in
theorem ggX3_putIn_X3_pieceFor : GoodIn wsX3_putIn wsX3_pieceFor := goodIn_r _ [18, 19, 20, 55, 56, 57, 58, 59, 60, 61, 62] (by decide +kernel) (by decide +kernel)
set_option maxRecDepth 20000 in
theorem gX3_putIn_X3_pieceFor : GoodIn wsX3_putIn (wsV RX3 64 RX3 yX3_pieceFor wsX3_pieceFor) := goodIn_app (goodIn_of _ (by decide +kernel)) ggX3_putIn_X3_pieceFor
set_option maxRecDepth 20000 in
theorem ggX3_putIn_X3_startOf : GoodIn wsX3_putIn wsX3_startOf := goodIn_r _ [24, 25, 2, 26, 27, 28, 17, 29, 19, 55, 56, 57, 58, 59, 60, 61, 62] (by decide +kernel) (by decide +kernel)
set_option maxRecDepth 20000 in
theorem gX3_putIn_X3_startOf : GoodIn wsX3_putIn (wsV RX3 46 RX3 yX3_startOf wsX3_startOf) := goodIn_app (goodIn_of _ (by decide +kernel)) ggX3_putIn_X3_startOf
set_option maxRecDepth 20000 in
theorem ggX3_putIn_X3_isSorted : GoodIn wsX3_putIn wsX3_isSorted := goodIn_r _ [33, 34, 26, 27, 28, 17, 29, 19, 55, 56, 57, 58, 59, 60, 61, 62] (by decide +kernel) (by decide +kernel)
set_option maxRecDepth 20000 in
theorem gX3_putIn_X3_isSorted : GoodIn wsX3_putIn (wsV RX3 50 RX3 yX3_isSorted wsX3_isSorted) := goodIn_app (goodIn_of _ (by decide +kernel)) ggX3_putIn_X3_isSorted
set_option maxRecDepth 20000 in
theorem ggX3_putIn_X3_rowAt : GoodIn wsX3_putIn wsX3_rowAt := goodIn_r _ [38, 2, 3, 55, 56, 57, 58, 59, 60, 61, 62] (by decide +kernel) (by decide +kernel)
set_option maxRecDepth 20000 in
theorem gX3_putIn_X3_rowAt : GoodIn wsX3_putIn (wsV RX3 53 RX3 yX3_rowAt wsX3_rowAt) := goodIn_app (goodIn_of _ (by decide +kernel)) ggX3_putIn_X3_rowAt
set_option maxRecDepth 20000 in
theorem ggX3_putIn_X6_isAhead : GoodIn wsX3_putIn wsX6_isAhead := goodIn_r _ [42, 43, 9, 10, 11, 12, 13, 63, 64, 65, 66] (by decide +kernel) (by decide +kernel)
set_option maxRecDepth 20000 in
theorem gX3_putIn_X6_isAhead : GoodIn wsX3_putIn (wsV RX3 67 RX6 yX6_isAhead wsX6_isAhead) := goodIn_app (goodIn_of _ (by decide +kernel)) ggX3_putIn_X6_isAhead
set_option maxRecDepth 20000 in
theorem ggX3_putIn_X3_shiftStarts : GoodIn wsX3_putIn wsX3_shiftStarts := goodIn_r _ [47, 19, 48, 49, 50, 51, 52, 53, 54, 25, 55, 56, 57, 58, 59, 60, 61, 62] (by decide +kernel) (by decide +kernel)
set_option maxRecDepth 20000 in
theorem gX3_putIn_X3_shiftStarts : GoodIn wsX3_putIn (wsV RX3 77 RX3 yX3_shiftStarts wsX3_shiftStarts) := goodIn_app (goodIn_of _ (by decide +kernel)) ggX3_putIn_X3_shiftStarts
theorem dX3_putIn_0 : decode cX3_putIn 0 = .ok (.aload_n 0, 1) := by decide +kernel
theorem dX3_putIn_1 : decode cX3_putIn 1 = .ok (.aload_n 0, 1) := by decide +kernel
theorem dX3_putIn_2 : decode cX3_putIn 2 = .ok (.getfield 34, 3) := by decide +kernel
theorem dX3_putIn_5 : decode cX3_putIn 5 = .ok (.iload_n 1, 1) := by decide +kernel
theorem dX3_putIn_6 : decode cX3_putIn 6 = .ok (.invokevirtual 56, 3) := by decide +kernel
theorem dX3_putIn_9 : decode cX3_putIn 9 = .ok (.invokevirtual 64, 3) := by decide +kernel
theorem dX3_putIn_12 : decode cX3_putIn 12 = .ok (.istore_n 2, 1) := by decide +kernel
theorem dX3_putIn_13 : decode cX3_putIn 13 = .ok (.aload_n 0, 1) := by decide +kernel
theorem dX3_putIn_14 : decode cX3_putIn 14 = .ok (.iload_n 2, 1) := by decide +kernel
theorem dX3_putIn_15 : decode cX3_putIn 15 = .ok (.iconst 1, 1) := by decide +kernel
theorem dX3_putIn_16 : decode cX3_putIn 16 = .ok (.iadd, 1) := by decide +kernel
theorem dX3_putIn_17 : decode cX3_putIn 17 = .ok (.invokevirtual 46, 3) := by decide +kernel
theorem dX3_putIn_20 : decode cX3_putIn 20 = .ok (.istore_n 3, 1) := by decide +kernel
theorem dX3_putIn_21 : decode cX3_putIn 21 = .ok (.aload_n 0, 1) := by decide +kernel
theorem dX3_putIn_22 : decode cX3_putIn 22 = .ok (.iload_n 2, 1) := by decide +kernel
theorem dX3_putIn_23 : decode cX3_putIn 23 = .ok (.invokevirtual 50, 3) := by decide +kernel
theorem dX3_putIn_26 : decode cX3_putIn 26 = .ok (.ifCond .eq 11, 3) := by decide +kernel
theorem dX3_putIn_29 : decode cX3_putIn 29 = .ok (.aload_n 0, 1) := by decide +kernel
theorem dX3_putIn_30 : decode cX3_putIn 30 = .ok (.iload_n 2, 1) := by decide +kernel
theorem dX3_putIn_31 : decode cX3_putIn 31 = .ok (.invokevirtual 46, 3) := by decide +kernel
theorem dX3_putIn_34 : decode cX3_putIn 34 = .ok (.goto 4, 3) := by decide +kernel
theorem dX3_putIn_37 : decode cX3_putIn 37 = .ok (.iload_n 3, 1) := by decide +kernel
theorem dX3_putIn_38 : decode cX3_putIn 38 = .ok (.istore 4, 2) := by decide +kernel
theorem dX3_putIn_40 : decode cX3_putIn 40 = .ok (.iload_n 3, 1) := by decide +kernel
theorem dX3_putIn_41 : decode cX3_putIn 41 = .ok (.iload 4, 2) := by decide +kernel
theorem dX3_putIn_43 : decode cX3_putIn 43 = .ok (.if_icmp .le 27, 3) := by decide +kernel
theorem dX3_putIn_46 : decode cX3_putIn 46 = .ok (.aload_n 0, 1) := by decide +kernel
theorem dX3_putIn_47 : decode cX3_putIn 47 = .ok (.getfield 34, 3) := by decide +kernel
theorem dX3_putIn_50 : decode cX3_putIn 50 = .ok (.iload_n 1, 1) := by decide +kernel
theorem dX3_putIn_51 : decode cX3_putIn 51 = .ok (.aload_n 0, 1) := by decide +kernel
theorem dX3_putIn_52 : decode cX3_putIn 52 = .ok (.iload_n 3, 1) := by decide +kernel
theorem dX3_putIn_53 : decode cX3_putIn 53 = .ok (.iconst 1, 1) := by decide +kernel
theorem dX3_putIn_54 : decode cX3_putIn 54 = .ok (.isub, 1) := by decide +kernel
theorem dX3_putIn_55 : decode cX3_putIn 55 = .ok (.invokevirtual 53, 3) := by decide +kernel
theorem dX3_putIn_58 : decode cX3_putIn 58 = .ok (.invokevirtual 67, 3) := by decide +kernel
theorem dX3_putIn_61 : decode cX3_putIn 61 = .ok (.ifCond .eq 9, 3) := by decide +kernel
theorem dX3_putIn_64 : decode cX3_putIn 64 = .ok (.iinc 3 (-1), 3) := by decide +kernel
theorem dX3_putIn_67 : decode cX3_putIn 67 = .ok (.goto (-27), 3) := by decide +kernel
theorem dX3_putIn_70 : decode cX3_putIn 70 = .ok (.iload_n 3, 1) := by decide +kernel
theorem dX3_putIn_71 : decode cX3_putIn 71 = .ok (.ifCond .lt 20, 3) := by decide +kernel
theorem dX3_putIn_74 : decode cX3_putIn 74 = .ok (.iload_n 3, 1) := by decide +kernel
theorem dX3_putIn_75 : decode cX3_putIn 75 = .ok (.aload_n 0, 1) := by decide +kernel
theorem dX3_putIn_76 : decode cX3_putIn 76 = .ok (.getfield 27, 3) := by decide +kernel
theorem dX3_putIn_79 : decode cX3_putIn 79 = .ok (.if_icmp .gt 12, 3) := by decide +kernel
theorem dX3_putIn_82 : decode cX3_putIn 82 = .ok (.aload_n 0, 1) := by decide +kernel
theorem dX3_putIn_83 : decode cX3_putIn 83 = .ok (.getfield 27, 3) := by decide +kernel
theorem dX3_putIn_86 : decode cX3_putIn 86 = .ok (.bipush 120, 2) := by decide +kernel
theorem dX3_putIn_88 : decode cX3_putIn 88 = .ok (.if_icmp .lt 4, 3) := by decide +kernel
theorem dX3_putIn_91 : decode cX3_putIn 91 = .ok (.return_, 1) := by decide +kernel
theorem dX3_putIn_92 : decode cX3_putIn 92 = .ok (.aload_n 0, 1) := by decide +kernel
theorem dX3_putIn_93 : decode cX3_putIn 93 = .ok (.getfield 9, 3) := by decide +kernel
theorem dX3_putIn_96 : decode cX3_putIn 96 = .ok (.iload_n 3, 1) := by decide +kernel
theorem dX3_putIn_97 : decode cX3_putIn 97 = .ok (.aload_n 0, 1) := by decide +kernel
theorem dX3_putIn_98 : decode cX3_putIn 98 = .ok (.getfield 9, 3) := by decide +kernel
theorem dX3_putIn_101 : decode cX3_putIn 101 = .ok (.iload_n 3, 1) := by decide +kernel
theorem dX3_putIn_102 : decode cX3_putIn 102 = .ok (.iconst 1, 1) := by decide +kernel
theorem dX3_putIn_103 : decode cX3_putIn 103 = .ok (.iadd, 1) := by decide +kernel
theorem dX3_putIn_104 : decode cX3_putIn 104 = .ok (.aload_n 0, 1) := by decide +kernel
theorem dX3_putIn_105 : decode cX3_putIn 105 = .ok (.getfield 27, 3) := by decide +kernel
theorem dX3_putIn_108 : decode cX3_putIn 108 = .ok (.iload_n 3, 1) := by decide +kernel
theorem dX3_putIn_109 : decode cX3_putIn 109 = .ok (.isub, 1) := by decide +kernel
theorem dX3_putIn_110 : decode cX3_putIn 110 = .ok (.invokestatic 71, 3) := by decide +kernel
theorem dX3_putIn_113 : decode cX3_putIn 113 = .ok (.aload_n 0, 1) := by decide +kernel
theorem dX3_putIn_114 : decode cX3_putIn 114 = .ok (.getfield 9, 3) := by decide +kernel
theorem dX3_putIn_117 : decode cX3_putIn 117 = .ok (.iload_n 3, 1) := by decide +kernel
theorem dX3_putIn_118 : decode cX3_putIn 118 = .ok (.iload_n 1, 1) := by decide +kernel
theorem dX3_putIn_119 : decode cX3_putIn 119 = .ok (.iastore, 1) := by decide +kernel
theorem dX3_putIn_120 : decode cX3_putIn 120 = .ok (.aload_n 0, 1) := by decide +kernel
theorem dX3_putIn_121 : decode cX3_putIn 121 = .ok (.dup, 1) := by decide +kernel
theorem dX3_putIn_122 : decode cX3_putIn 122 = .ok (.getfield 27, 3) := by decide +kernel
theorem dX3_putIn_125 : decode cX3_putIn 125 = .ok (.iconst 1, 1) := by decide +kernel
theorem dX3_putIn_126 : decode cX3_putIn 126 = .ok (.iadd, 1) := by decide +kernel
theorem dX3_putIn_127 : decode cX3_putIn 127 = .ok (.putfield 27, 3) := by decide +kernel
theorem dX3_putIn_130 : decode cX3_putIn 130 = .ok (.aload_n 0, 1) := by decide +kernel
theorem dX3_putIn_131 : decode cX3_putIn 131 = .ok (.iload_n 2, 1) := by decide +kernel
theorem dX3_putIn_132 : decode cX3_putIn 132 = .ok (.iconst 1, 1) := by decide +kernel
theorem dX3_putIn_133 : decode cX3_putIn 133 = .ok (.iadd, 1) := by decide +kernel
theorem dX3_putIn_134 : decode cX3_putIn 134 = .ok (.iconst 1, 1) := by decide +kernel
theorem dX3_putIn_135 : decode cX3_putIn 135 = .ok (.invokevirtual 77, 3) := by decide +kernel
theorem dX3_putIn_138 : decode cX3_putIn 138 = .ok (.return_, 1) := by decide +kernel
set_option maxRecDepth 20000 in
theorem ggX3_takeOut_X3_placeOf : GoodIn wsX3_takeOut wsX3_placeOf := goodIn_r _ [12, 1, 13, 14, 15, 11, 16, 3, 41, 42, 43, 44, 45, 46, 47, 48] (by decide +kernel) (by decide +kernel)
set_option maxRecDepth 20000 in
theorem gX3_takeOut_X3_placeOf : GoodIn wsX3_takeOut (wsV RX3 81 RX3 yX3_placeOf wsX3_placeOf) := goodIn_app (goodIn_of _ (by decide +kernel)) ggX3_takeOut_X3_placeOf
set_option maxRecDepth 20000 in
theorem ggX3_takeOut_X6_keyOf : GoodIn wsX3_takeOut wsX6_keyOf := goodIn_r _ [21, 22, 49, 50, 51, 52] (by decide +kernel) (by decide +kernel)
set_option maxRecDepth 20000 in
theorem gX3_takeOut_X6_keyOf : GoodIn wsX3_takeOut (wsV RX3 56 RX6 yX6_keyOf wsX6_keyOf) := goodIn_app (goodIn_of _ (by decide +kernel)) ggX3_takeOut_X6_keyOf
set_option maxRecDepth 20000 in
theorem ggX3_takeOut_X3_pieceFor : GoodIn wsX3_takeOut wsX3_pieceFor := goodIn_r _ [26, 27, 28, 41, 42, 43, 44, 45, 46, 47, 48] (by decide +kernel) (by decide +kernel)
set_option maxRecDepth 20000 in
theorem gX3_takeOut_X3_pieceFor : GoodIn wsX3_takeOut (wsV RX3 64 RX3 yX3_pieceFor wsX3_pieceFor) := goodIn_app (goodIn_of _ (by decide +kernel)) ggX3_takeOut_X3_pieceFor
set_option maxRecDepth 20000 in
theorem ggX3_takeOut_X3_shiftStarts : GoodIn wsX3_takeOut wsX3_shiftStarts := goodIn_r _ [32, 27, 33, 34, 35, 36, 37, 38, 39, 40, 41, 42, 43, 44, 45, 46, 47, 48] (by decide +kernel) (by decide +kernel)
set_option maxRecDepth 20000 in
theorem gX3_takeOut_X3_shiftStarts : GoodIn wsX3_takeOut (wsV RX3 77 RX3 yX3_shiftStarts wsX3_shiftStarts) := goodIn_app (goodIn_of _ (by decide +kernel)) ggX3_takeOut_X3_shiftStarts
theorem dX3_takeOut_0 : decode cX3_takeOut 0 = .ok (.aload_n 0, 1) := by decide +kernel
theorem dX3_takeOut_1 : decode cX3_takeOut 1 = .ok (.iload_n 1, 1) := by decide +kernel
theorem dX3_takeOut_2 : decode cX3_takeOut 2 = .ok (.invokevirtual 81, 3) := by decide +kernel
theorem dX3_takeOut_5 : decode cX3_takeOut 5 = .ok (.istore_n 2, 1) := by decide +kernel
theorem dX3_takeOut_6 : decode cX3_takeOut 6 = .ok (.iload_n 2, 1) := by decide +kernel
theorem dX3_takeOut_7 : decode cX3_takeOut 7 = .ok (.ifCond .lt 20, 3) := by decide +kernel
theorem dX3_takeOut_10 : decode cX3_takeOut 10 = .ok (.iload_n 2, 1) := by decide +kernel
theorem dX3_takeOut_11 : decode cX3_takeOut 11 = .ok (.aload_n 0, 1) := by decide +kernel
theorem dX3_takeOut_12 : decode cX3_takeOut 12 = .ok (.getfield 27, 3) := by decide +kernel
theorem dX3_takeOut_15 : decode cX3_takeOut 15 = .ok (.if_icmp .ge 12, 3) := by decide +kernel
theorem dX3_takeOut_18 : decode cX3_takeOut 18 = .ok (.aload_n 0, 1) := by decide +kernel
theorem dX3_takeOut_19 : decode cX3_takeOut 19 = .ok (.getfield 27, 3) := by decide +kernel
theorem dX3_takeOut_22 : decode cX3_takeOut 22 = .ok (.bipush 120, 2) := by decide +kernel
theorem dX3_takeOut_24 : decode cX3_takeOut 24 = .ok (.if_icmp .le 4, 3) := by decide +kernel
theorem dX3_takeOut_27 : decode cX3_takeOut 27 = .ok (.return_, 1) := by decide +kernel
theorem dX3_takeOut_28 : decode cX3_takeOut 28 = .ok (.aload_n 0, 1) := by decide +kernel
theorem dX3_takeOut_29 : decode cX3_takeOut 29 = .ok (.aload_n 0, 1) := by decide +kernel
theorem dX3_takeOut_30 : decode cX3_takeOut 30 = .ok (.getfield 34, 3) := by decide +kernel
theorem dX3_takeOut_33 : decode cX3_takeOut 33 = .ok (.iload_n 1, 1) := by decide +kernel
theorem dX3_takeOut_34 : decode cX3_takeOut 34 = .ok (.invokevirtual 56, 3) := by decide +kernel
theorem dX3_takeOut_37 : decode cX3_takeOut 37 = .ok (.invokevirtual 64, 3) := by decide +kernel
theorem dX3_takeOut_40 : decode cX3_takeOut 40 = .ok (.istore_n 3, 1) := by decide +kernel
theorem dX3_takeOut_41 : decode cX3_takeOut 41 = .ok (.aload_n 0, 1) := by decide +kernel
theorem dX3_takeOut_42 : decode cX3_takeOut 42 = .ok (.getfield 9, 3) := by decide +kernel
theorem dX3_takeOut_45 : decode cX3_takeOut 45 = .ok (.iload_n 2, 1) := by decide +kernel
theorem dX3_takeOut_46 : decode cX3_takeOut 46 = .ok (.iconst 1, 1) := by decide +kernel
theorem dX3_takeOut_47 : decode cX3_takeOut 47 = .ok (.iadd, 1) := by decide +kernel
theorem dX3_takeOut_48 : decode cX3_takeOut 48 = .ok (.aload_n 0, 1) := by decide +kernel
theorem dX3_takeOut_49 : decode cX3_takeOut 49 = .ok (.getfield 9, 3) := by decide +kernel
theorem dX3_takeOut_52 : decode cX3_takeOut 52 = .ok (.iload_n 2, 1) := by decide +kernel
theorem dX3_takeOut_53 : decode cX3_takeOut 53 = .ok (.aload_n 0, 1) := by decide +kernel
theorem dX3_takeOut_54 : decode cX3_takeOut 54 = .ok (.getfield 27, 3) := by decide +kernel
theorem dX3_takeOut_57 : decode cX3_takeOut 57 = .ok (.iload_n 2, 1) := by decide +kernel
theorem dX3_takeOut_58 : decode cX3_takeOut 58 = .ok (.isub, 1) := by decide +kernel
theorem dX3_takeOut_59 : decode cX3_takeOut 59 = .ok (.iconst 1, 1) := by decide +kernel
theorem dX3_takeOut_60 : decode cX3_takeOut 60 = .ok (.isub, 1) := by decide +kernel
theorem dX3_takeOut_61 : decode cX3_takeOut 61 = .ok (.invokestatic 71, 3) := by decide +kernel
theorem dX3_takeOut_64 : decode cX3_takeOut 64 = .ok (.aload_n 0, 1) := by decide +kernel
theorem dX3_takeOut_65 : decode cX3_takeOut 65 = .ok (.dup, 1) := by decide +kernel
theorem dX3_takeOut_66 : decode cX3_takeOut 66 = .ok (.getfield 27, 3) := by decide +kernel
theorem dX3_takeOut_69 : decode cX3_takeOut 69 = .ok (.iconst 1, 1) := by decide +kernel
theorem dX3_takeOut_70 : decode cX3_takeOut 70 = .ok (.isub, 1) := by decide +kernel
theorem dX3_takeOut_71 : decode cX3_takeOut 71 = .ok (.putfield 27, 3) := by decide +kernel
theorem dX3_takeOut_74 : decode cX3_takeOut 74 = .ok (.aload_n 0, 1) := by decide +kernel
theorem dX3_takeOut_75 : decode cX3_takeOut 75 = .ok (.iload_n 3, 1) := by decide +kernel
theorem dX3_takeOut_76 : decode cX3_takeOut 76 = .ok (.iconst 1, 1) := by decide +kernel
theorem dX3_takeOut_77 : decode cX3_takeOut 77 = .ok (.iadd, 1) := by decide +kernel
theorem dX3_takeOut_78 : decode cX3_takeOut 78 = .ok (.iconst (-1), 1) := by decide +kernel
theorem dX3_takeOut_79 : decode cX3_takeOut 79 = .ok (.invokevirtual 77, 3) := by decide +kernel
theorem dX3_takeOut_82 : decode cX3_takeOut 82 = .ok (.return_, 1) := by decide +kernel
theorem dX3_shiftStarts_0 : decode cX3_shiftStarts 0 = .ok (.aload_n 0, 1) := by decide +kernel
theorem dX3_shiftStarts_1 : decode cX3_shiftStarts 1 = .ok (.getfield 31, 3) := by decide +kernel
theorem dX3_shiftStarts_4 : decode cX3_shiftStarts 4 = .ok (.bipush 62, 2) := by decide +kernel
theorem dX3_shiftStarts_6 : decode cX3_shiftStarts 6 = .ok (.invokestatic 84, 3) := by decide +kernel
theorem dX3_shiftStarts_9 : decode cX3_shiftStarts 9 = .ok (.istore_n 3, 1) := by decide +kernel
theorem dX3_shiftStarts_10 : decode cX3_shiftStarts 10 = .ok (.iload_n 1, 1) := by decide +kernel
theorem dX3_shiftStarts_11 : decode cX3_shiftStarts 11 = .ok (.iconst 0, 1) := by decide +kernel
theorem dX3_shiftStarts_12 : decode cX3_shiftStarts 12 = .ok (.invokestatic 90, 3) := by decide +kernel
theorem dX3_shiftStarts_15 : decode cX3_shiftStarts 15 = .ok (.istore 4, 2) := by decide +kernel
theorem dX3_shiftStarts_17 : decode cX3_shiftStarts 17 = .ok (.iload 4, 2) := by decide +kernel
theorem dX3_shiftStarts_19 : decode cX3_shiftStarts 19 = .ok (.iload_n 3, 1) := by decide +kernel
theorem dX3_shiftStarts_20 : decode cX3_shiftStarts 20 = .ok (.if_icmp .ge 20, 3) := by decide +kernel
theorem dX3_shiftStarts_23 : decode cX3_shiftStarts 23 = .ok (.aload_n 0, 1) := by decide +kernel
theorem dX3_shiftStarts_24 : decode cX3_shiftStarts 24 = .ok (.getfield 18, 3) := by decide +kernel
theorem dX3_shiftStarts_27 : decode cX3_shiftStarts 27 = .ok (.iload 4, 2) := by decide +kernel
theorem dX3_shiftStarts_29 : decode cX3_shiftStarts 29 = .ok (.dup2, 1) := by decide +kernel
theorem dX3_shiftStarts_30 : decode cX3_shiftStarts 30 = .ok (.iaload, 1) := by decide +kernel
theorem dX3_shiftStarts_31 : decode cX3_shiftStarts 31 = .ok (.iload_n 2, 1) := by decide +kernel
theorem dX3_shiftStarts_32 : decode cX3_shiftStarts 32 = .ok (.iadd, 1) := by decide +kernel
theorem dX3_shiftStarts_33 : decode cX3_shiftStarts 33 = .ok (.iastore, 1) := by decide +kernel
theorem dX3_shiftStarts_34 : decode cX3_shiftStarts 34 = .ok (.iinc 4 1, 3) := by decide +kernel
theorem dX3_shiftStarts_37 : decode cX3_shiftStarts 37 = .ok (.goto (-20), 3) := by decide +kernel
theorem dX3_shiftStarts_40 : decode cX3_shiftStarts 40 = .ok (.return_, 1) := by decide +kernel
set_option maxRecDepth 20000 in
theorem ggX3_divideAt_X3_pieceFor : GoodIn wsX3_divideAt wsX3_pieceFor := goodIn_r _ [9, 1, 3, 74, 75, 76, 77, 78, 79, 80, 81] (by decide +kernel) (by decide +kernel)
set_option maxRecDepth 20000 in
theorem gX3_divideAt_X3_pieceFor : GoodIn wsX3_divideAt (wsV RX3 64 RX3 yX3_pieceFor wsX3_pieceFor) := goodIn_app (goodIn_of _ (by decide +kernel)) ggX3_divideAt_X3_pieceFor
set_option maxRecDepth 20000 in
theorem ggX3_divideAt_X3_has : GoodIn wsX3_divideAt wsX3_has := goodIn_r _ [13, 1, 74, 75, 76, 77, 78, 79, 80, 81] (by decide +kernel) (by decide +kernel)
set_option maxRecDepth 20000 in
theorem gX3_divideAt_X3_has : GoodIn wsX3_divideAt (wsV RX3 42 RX3 yX3_has wsX3_has) := goodIn_app (goodIn_of _ (by decide +kernel)) ggX3_divideAt_X3_has
set_option maxRecDepth 20000 in
theorem ggX3_divideAt_X3_boundOf : GoodIn wsX3_divideAt wsX3_boundOf := goodIn_r _ [17, 3, 10, 11, 12, 8, 13, 1, 74, 75, 76, 77, 78, 79, 80, 81] (by decide +kernel) (by decide +kernel)
set_option maxRecDepth 20000 in
theorem gX3_divideAt_X3_boundOf : GoodIn wsX3_divideAt (wsV RX3 93 RX3 yX3_boundOf wsX3_boundOf) := goodIn_app (goodIn_of _ (by decide +kernel)) ggX3_divideAt_X3_boundOf
set_option maxRecDepth 20000 in
theorem ggX3_divideAt_X3_sizeOf : GoodIn wsX3_divideAt wsX3_sizeOf := goodIn_r _ [21, 22, 23, 24, 8, 25, 4, 26, 10, 11, 12, 13, 1, 74, 75, 76, 77, 78, 79, 80, 81] (by decide +kernel) (by decide +kernel)
set_option maxRecDepth 20000 in
theorem gX3_divideAt_X3_sizeOf : GoodIn wsX3_divideAt (wsV RX3 96 RX3 yX3_sizeOf wsX3_sizeOf) := goodIn_app (goodIn_of _ (by decide +kernel)) ggX3_divideAt_X3_sizeOf
set_option maxRecDepth 20000 in
theorem ggX3_divideAt_X3_isSorted : GoodIn wsX3_divideAt wsX3_isSorted := goodIn_r _ [30, 31, 10, 11, 12, 8, 13, 1, 74, 75, 76, 77, 78, 79, 80, 81] (by decide +kernel) (by decide +kernel)
set_option maxRecDepth 20000 in
theorem gX3_divideAt_X3_isSorted : GoodIn wsX3_divideAt (wsV RX3 50 RX3 yX3_isSorted wsX3_isSorted) := goodIn_app (goodIn_of _ (by decide +kernel)) ggX3_divideAt_X3_isSorted
set_option maxRecDepth 20000 in
theorem ggX3_divideAt_X7_powerFor : GoodIn wsX3_divideAt wsX7_powerFor := goodIn_r _ [34] (by decide +kernel) (by decide +kernel)
set_option maxRecDepth 20000 in
theorem gX3_divideAt_X7_powerFor_n99 : GoodIn wsX3_divideAt (wsX7_powerFor) := ggX3_divideAt_X7_powerFor
set_option maxRecDepth 20000 in
theorem ggX3_divideAt_X3_gatherLess : GoodIn wsX3_divideAt wsX3_gatherLess := goodIn_r _ [38, 22, 23, 24, 8, 25, 4, 26, 10, 11, 12, 13, 1, 39, 40, 41, 42, 43, 44, 45, 46, 47, 48, 49, 50, 51, 52, 53, 54, 55, 56, 57, 58, 59, 60, 61, 62, 74, 75, 76, 77, 78, 79, 80, 81, 82, 83, 84, 85] (by decide +kernel) (by decide +kernel)
set_option maxRecDepth 20000 in
theorem gX3_divideAt_X3_gatherLess : GoodIn wsX3_divideAt (wsV RX3 102 RX3 yX3_gatherLess wsX3_gatherLess) := goodIn_app (goodIn_of _ (by decide +kernel)) ggX3_divideAt_X3_gatherLess
set_option maxRecDepth 20000 in
theorem ggX3_divideAt_X3_movePiece : GoodIn wsX3_divideAt wsX3_movePiece := goodIn_r _ [66, 67, 68, 69, 70, 71, 72, 73, 3, 4, 2, 31, 74, 75, 76, 77, 78, 79, 80, 81] (by decide +kernel) (by decide +kernel)
set_option maxRecDepth 20000 in
theorem gX3_divideAt_X3_movePiece : GoodIn wsX3_divideAt (wsV RX3 105 RX3 yX3_movePiece wsX3_movePiece) := goodIn_app (goodIn_of _ (by decide +kernel)) ggX3_divideAt_X3_movePiece
theorem dX3_divideAt_0 : decode cX3_divideAt 0 = .ok (.aload_n 0, 1) := by decide +kernel
theorem dX3_divideAt_1 : decode cX3_divideAt 1 = .ok (.iload_n 1, 1) := by decide +kernel
theorem dX3_divideAt_2 : decode cX3_divideAt 2 = .ok (.invokevirtual 64, 3) := by decide +kernel
theorem dX3_divideAt_5 : decode cX3_divideAt 5 = .ok (.istore_n 2, 1) := by decide +kernel
theorem dX3_divideAt_6 : decode cX3_divideAt 6 = .ok (.aload_n 0, 1) := by decide +kernel
theorem dX3_divideAt_7 : decode cX3_divideAt 7 = .ok (.iload_n 2, 1) := by decide +kernel
theorem dX3_divideAt_8 : decode cX3_divideAt 8 = .ok (.invokevirtual 42, 3) := by decide +kernel
theorem dX3_divideAt_11 : decode cX3_divideAt 11 = .ok (.ifCond .eq 21, 3) := by decide +kernel
theorem dX3_divideAt_14 : decode cX3_divideAt 14 = .ok (.aload_n 0, 1) := by decide +kernel
theorem dX3_divideAt_15 : decode cX3_divideAt 15 = .ok (.iload_n 2, 1) := by decide +kernel
theorem dX3_divideAt_16 : decode cX3_divideAt 16 = .ok (.invokevirtual 93, 3) := by decide +kernel
theorem dX3_divideAt_19 : decode cX3_divideAt 19 = .ok (.iload_n 1, 1) := by decide +kernel
theorem dX3_divideAt_20 : decode cX3_divideAt 20 = .ok (.if_icmp .eq 12, 3) := by decide +kernel
theorem dX3_divideAt_23 : decode cX3_divideAt 23 = .ok (.aload_n 0, 1) := by decide +kernel
theorem dX3_divideAt_24 : decode cX3_divideAt 24 = .ok (.getfield 31, 3) := by decide +kernel
theorem dX3_divideAt_27 : decode cX3_divideAt 27 = .ok (.bipush 62, 2) := by decide +kernel
theorem dX3_divideAt_29 : decode cX3_divideAt 29 = .ok (.if_icmp .lt 5, 3) := by decide +kernel
theorem dX3_divideAt_32 : decode cX3_divideAt 32 = .ok (.iconst 0, 1) := by decide +kernel
theorem dX3_divideAt_33 : decode cX3_divideAt 33 = .ok (.ireturn, 1) := by decide +kernel
theorem dX3_divideAt_34 : decode cX3_divideAt 34 = .ok (.aload_n 0, 1) := by decide +kernel
theorem dX3_divideAt_35 : decode cX3_divideAt 35 = .ok (.iload_n 2, 1) := by decide +kernel
theorem dX3_divideAt_36 : decode cX3_divideAt 36 = .ok (.invokevirtual 96, 3) := by decide +kernel
theorem dX3_divideAt_39 : decode cX3_divideAt 39 = .ok (.istore_n 3, 1) := by decide +kernel
theorem dX3_divideAt_40 : decode cX3_divideAt 40 = .ok (.aload_n 0, 1) := by decide +kernel
theorem dX3_divideAt_41 : decode cX3_divideAt 41 = .ok (.iload_n 2, 1) := by decide +kernel
theorem dX3_divideAt_42 : decode cX3_divideAt 42 = .ok (.invokevirtual 50, 3) := by decide +kernel
theorem dX3_divideAt_45 : decode cX3_divideAt 45 = .ok (.ifCond .eq 12, 3) := by decide +kernel
theorem dX3_divideAt_48 : decode cX3_divideAt 48 = .ok (.iload_n 3, 1) := by decide +kernel
theorem dX3_divideAt_49 : decode cX3_divideAt 49 = .ok (.iconst 1, 1) := by decide +kernel
theorem dX3_divideAt_50 : decode cX3_divideAt 50 = .ok (.iadd, 1) := by decide +kernel
theorem dX3_divideAt_51 : decode cX3_divideAt 51 = .ok (.invokestatic 99, 3) := by decide +kernel
theorem dX3_divideAt_54 : decode cX3_divideAt 54 = .ok (.goto 4, 3) := by decide +kernel
theorem dX3_divideAt_57 : decode cX3_divideAt 57 = .ok (.iload_n 3, 1) := by decide +kernel
theorem dX3_divideAt_58 : decode cX3_divideAt 58 = .ok (.istore 4, 2) := by decide +kernel
theorem dX3_divideAt_60 : decode cX3_divideAt 60 = .ok (.aload_n 0, 1) := by decide +kernel
theorem dX3_divideAt_61 : decode cX3_divideAt 61 = .ok (.iload_n 2, 1) := by decide +kernel
theorem dX3_divideAt_62 : decode cX3_divideAt 62 = .ok (.iload_n 1, 1) := by decide +kernel
theorem dX3_divideAt_63 : decode cX3_divideAt 63 = .ok (.invokevirtual 102, 3) := by decide +kernel
theorem dX3_divideAt_66 : decode cX3_divideAt 66 = .ok (.istore 5, 2) := by decide +kernel
theorem dX3_divideAt_68 : decode cX3_divideAt 68 = .ok (.aload_n 0, 1) := by decide +kernel
theorem dX3_divideAt_69 : decode cX3_divideAt 69 = .ok (.getfield 31, 3) := by decide +kernel
theorem dX3_divideAt_72 : decode cX3_divideAt 72 = .ok (.istore 6, 2) := by decide +kernel
theorem dX3_divideAt_74 : decode cX3_divideAt 74 = .ok (.iload 6, 2) := by decide +kernel
theorem dX3_divideAt_76 : decode cX3_divideAt 76 = .ok (.iload_n 2, 1) := by decide +kernel
theorem dX3_divideAt_77 : decode cX3_divideAt 77 = .ok (.if_icmp .le 19, 3) := by decide +kernel
theorem dX3_divideAt_80 : decode cX3_divideAt 80 = .ok (.aload_n 0, 1) := by decide +kernel
theorem dX3_divideAt_81 : decode cX3_divideAt 81 = .ok (.iload 6, 2) := by decide +kernel
theorem dX3_divideAt_83 : decode cX3_divideAt 83 = .ok (.iconst 1, 1) := by decide +kernel
theorem dX3_divideAt_84 : decode cX3_divideAt 84 = .ok (.isub, 1) := by decide +kernel
theorem dX3_divideAt_85 : decode cX3_divideAt 85 = .ok (.iload 6, 2) := by decide +kernel
theorem dX3_divideAt_87 : decode cX3_divideAt 87 = .ok (.invokevirtual 105, 3) := by decide +kernel
theorem dX3_divideAt_90 : decode cX3_divideAt 90 = .ok (.iinc 6 (-1), 3) := by decide +kernel
theorem dX3_divideAt_93 : decode cX3_divideAt 93 = .ok (.goto (-19), 3) := by decide +kernel
theorem dX3_divideAt_96 : decode cX3_divideAt 96 = .ok (.aload_n 0, 1) := by decide +kernel
theorem dX3_divideAt_97 : decode cX3_divideAt 97 = .ok (.dup, 1) := by decide +kernel
theorem dX3_divideAt_98 : decode cX3_divideAt 98 = .ok (.getfield 31, 3) := by decide +kernel
theorem dX3_divideAt_101 : decode cX3_divideAt 101 = .ok (.iconst 1, 1) := by decide +kernel
theorem dX3_divideAt_102 : decode cX3_divideAt 102 = .ok (.iadd, 1) := by decide +kernel
theorem dX3_divideAt_103 : decode cX3_divideAt 103 = .ok (.putfield 31, 3) := by decide +kernel
theorem dX3_divideAt_106 : decode cX3_divideAt 106 = .ok (.aload_n 0, 1) := by decide +kernel
theorem dX3_divideAt_107 : decode cX3_divideAt 107 = .ok (.getfield 21, 3) := by decide +kernel
theorem dX3_divideAt_110 : decode cX3_divideAt 110 = .ok (.iload_n 2, 1) := by decide +kernel
theorem dX3_divideAt_111 : decode cX3_divideAt 111 = .ok (.dup2, 1) := by decide +kernel
theorem dX3_divideAt_112 : decode cX3_divideAt 112 = .ok (.iaload, 1) := by decide +kernel
theorem dX3_divideAt_113 : decode cX3_divideAt 113 = .ok (.iconst 2, 1) := by decide +kernel
theorem dX3_divideAt_114 : decode cX3_divideAt 114 = .ok (.idiv, 1) := by decide +kernel
theorem dX3_divideAt_115 : decode cX3_divideAt 115 = .ok (.iastore, 1) := by decide +kernel
theorem dX3_divideAt_116 : decode cX3_divideAt 116 = .ok (.aload_n 0, 1) := by decide +kernel
theorem dX3_divideAt_117 : decode cX3_divideAt 117 = .ok (.getfield 15, 3) := by decide +kernel
theorem dX3_divideAt_120 : decode cX3_divideAt 120 = .ok (.iload_n 2, 1) := by decide +kernel
theorem dX3_divideAt_121 : decode cX3_divideAt 121 = .ok (.iconst 1, 1) := by decide +kernel
theorem dX3_divideAt_122 : decode cX3_divideAt 122 = .ok (.iadd, 1) := by decide +kernel
theorem dX3_divideAt_123 : decode cX3_divideAt 123 = .ok (.iload_n 1, 1) := by decide +kernel
theorem dX3_divideAt_124 : decode cX3_divideAt 124 = .ok (.iastore, 1) := by decide +kernel
theorem dX3_divideAt_125 : decode cX3_divideAt 125 = .ok (.aload_n 0, 1) := by decide +kernel
theorem dX3_divideAt_126 : decode cX3_divideAt 126 = .ok (.getfield 18, 3) := by decide +kernel
theorem dX3_divideAt_129 : decode cX3_divideAt 129 = .ok (.iload_n 2, 1) := by decide +kernel
theorem dX3_divideAt_130 : decode cX3_divideAt 130 = .ok (.iconst 1, 1) := by decide +kernel
theorem dX3_divideAt_131 : decode cX3_divideAt 131 = .ok (.iadd, 1) := by decide +kernel
theorem dX3_divideAt_132 : decode cX3_divideAt 132 = .ok (.iload 5, 2) := by decide +kernel
theorem dX3_divideAt_134 : decode cX3_divideAt 134 = .ok (.iastore, 1) := by decide +kernel
theorem dX3_divideAt_135 : decode cX3_divideAt 135 = .ok (.aload_n 0, 1) := by decide +kernel
theorem dX3_divideAt_136 : decode cX3_divideAt 136 = .ok (.getfield 21, 3) := by decide +kernel
theorem dX3_divideAt_139 : decode cX3_divideAt 139 = .ok (.iload_n 2, 1) := by decide +kernel
theorem dX3_divideAt_140 : decode cX3_divideAt 140 = .ok (.iconst 1, 1) := by decide +kernel
theorem dX3_divideAt_141 : decode cX3_divideAt 141 = .ok (.iadd, 1) := by decide +kernel
theorem dX3_divideAt_142 : decode cX3_divideAt 142 = .ok (.aload_n 0, 1) := by decide +kernel
theorem dX3_divideAt_143 : decode cX3_divideAt 143 = .ok (.getfield 21, 3) := by decide +kernel
theorem dX3_divideAt_146 : decode cX3_divideAt 146 = .ok (.iload_n 2, 1) := by decide +kernel
theorem dX3_divideAt_147 : decode cX3_divideAt 147 = .ok (.iaload, 1) := by decide +kernel
theorem dX3_divideAt_148 : decode cX3_divideAt 148 = .ok (.iastore, 1) := by decide +kernel
theorem dX3_divideAt_149 : decode cX3_divideAt 149 = .ok (.iload 4, 2) := by decide +kernel
theorem dX3_divideAt_151 : decode cX3_divideAt 151 = .ok (.ireturn, 1) := by decide +kernel
set_option maxRecDepth 20000 in
theorem ggX3_gatherLess_X3_startOf : GoodIn wsX3_gatherLess wsX3_startOf := goodIn_r _ [5, 6, 7, 8, 9, 10, 4, 11, 12, 37, 38, 39, 40, 41, 42, 43, 44] (by decide +kernel) (by decide +kernel)
set_option maxRecDepth 20000 in
theorem gX3_gatherLess_X3_startOf : GoodIn wsX3_gatherLess (wsV RX3 46 RX3 yX3_startOf wsX3_startOf) := goodIn_app (goodIn_of _ (by decide +kernel)) ggX3_gatherLess_X3_startOf
set_option maxRecDepth 20000 in
theorem ggX3_gatherLess_X3_keyAt : GoodIn wsX3_gatherLess wsX3_keyAt := goodIn_r _ [16, 17, 18, 19, 20, 4, 21, 7, 22, 23, 24, 25, 26, 27, 28, 37, 38, 39, 40, 41, 42, 43, 44, 45, 46, 47, 48] (by decide +kernel) (by decide +kernel)
set_option maxRecDepth 20000 in
theorem gX3_gatherLess_X3_keyAt : GoodIn wsX3_gatherLess (wsV RX3 61 RX3 yX3_keyAt wsX3_keyAt) := goodIn_app (goodIn_of _ (by decide +kernel)) ggX3_gatherLess_X3_keyAt
set_option maxRecDepth 20000 in
theorem ggX3_gatherLess_X3_moveDown : GoodIn wsX3_gatherLess wsX3_moveDown := goodIn_r _ [32, 7, 22, 33, 34, 35, 36, 37, 38, 39, 40, 41, 42, 43, 44] (by decide +kernel) (by decide +kernel)
set_option maxRecDepth 20000 in
theorem gX3_gatherLess_X3_moveDown : GoodIn wsX3_gatherLess (wsV RX3 108 RX3 yX3_moveDown wsX3_moveDown) := goodIn_app (goodIn_of _ (by decide +kernel)) ggX3_gatherLess_X3_moveDown
theorem dX3_gatherLess_0 : decode cX3_gatherLess 0 = .ok (.aload_n 0, 1) := by decide +kernel
theorem dX3_gatherLess_1 : decode cX3_gatherLess 1 = .ok (.iload_n 1, 1) := by decide +kernel
theorem dX3_gatherLess_2 : decode cX3_gatherLess 2 = .ok (.invokevirtual 46, 3) := by decide +kernel
theorem dX3_gatherLess_5 : decode cX3_gatherLess 5 = .ok (.istore_n 3, 1) := by decide +kernel
theorem dX3_gatherLess_6 : decode cX3_gatherLess 6 = .ok (.aload_n 0, 1) := by decide +kernel
theorem dX3_gatherLess_7 : decode cX3_gatherLess 7 = .ok (.iload_n 1, 1) := by decide +kernel
theorem dX3_gatherLess_8 : decode cX3_gatherLess 8 = .ok (.iconst 1, 1) := by decide +kernel
theorem dX3_gatherLess_9 : decode cX3_gatherLess 9 = .ok (.iadd, 1) := by decide +kernel
theorem dX3_gatherLess_10 : decode cX3_gatherLess 10 = .ok (.invokevirtual 46, 3) := by decide +kernel
theorem dX3_gatherLess_13 : decode cX3_gatherLess 13 = .ok (.istore 4, 2) := by decide +kernel
theorem dX3_gatherLess_15 : decode cX3_gatherLess 15 = .ok (.iload_n 3, 1) := by decide +kernel
theorem dX3_gatherLess_16 : decode cX3_gatherLess 16 = .ok (.istore 5, 2) := by decide +kernel
theorem dX3_gatherLess_18 : decode cX3_gatherLess 18 = .ok (.iload 5, 2) := by decide +kernel
theorem dX3_gatherLess_20 : decode cX3_gatherLess 20 = .ok (.iload 4, 2) := by decide +kernel
theorem dX3_gatherLess_22 : decode cX3_gatherLess 22 = .ok (.if_icmp .ge 29, 3) := by decide +kernel
theorem dX3_gatherLess_25 : decode cX3_gatherLess 25 = .ok (.aload_n 0, 1) := by decide +kernel
theorem dX3_gatherLess_26 : decode cX3_gatherLess 26 = .ok (.iload 5, 2) := by decide +kernel
theorem dX3_gatherLess_28 : decode cX3_gatherLess 28 = .ok (.invokevirtual 61, 3) := by decide +kernel
theorem dX3_gatherLess_31 : decode cX3_gatherLess 31 = .ok (.iload_n 2, 1) := by decide +kernel
theorem dX3_gatherLess_32 : decode cX3_gatherLess 32 = .ok (.if_icmp .ge 13, 3) := by decide +kernel
theorem dX3_gatherLess_35 : decode cX3_gatherLess 35 = .ok (.aload_n 0, 1) := by decide +kernel
theorem dX3_gatherLess_36 : decode cX3_gatherLess 36 = .ok (.iload 5, 2) := by decide +kernel
theorem dX3_gatherLess_38 : decode cX3_gatherLess 38 = .ok (.iload_n 3, 1) := by decide +kernel
theorem dX3_gatherLess_39 : decode cX3_gatherLess 39 = .ok (.invokevirtual 108, 3) := by decide +kernel
theorem dX3_gatherLess_42 : decode cX3_gatherLess 42 = .ok (.iinc 3 1, 3) := by decide +kernel
theorem dX3_gatherLess_45 : decode cX3_gatherLess 45 = .ok (.iinc 5 1, 3) := by decide +kernel
theorem dX3_gatherLess_48 : decode cX3_gatherLess 48 = .ok (.goto (-30), 3) := by decide +kernel
theorem dX3_gatherLess_51 : decode cX3_gatherLess 51 = .ok (.iload_n 3, 1) := by decide +kernel
theorem dX3_gatherLess_52 : decode cX3_gatherLess 52 = .ok (.ireturn, 1) := by decide +kernel
theorem dX3_moveDown_0 : decode cX3_moveDown 0 = .ok (.iload_n 2, 1) := by decide +kernel
theorem dX3_moveDown_1 : decode cX3_moveDown 1 = .ok (.ifCond .lt 22, 3) := by decide +kernel
theorem dX3_moveDown_4 : decode cX3_moveDown 4 = .ok (.iload_n 1, 1) := by decide +kernel
theorem dX3_moveDown_5 : decode cX3_moveDown 5 = .ok (.iload_n 2, 1) := by decide +kernel
theorem dX3_moveDown_6 : decode cX3_moveDown 6 = .ok (.if_icmp .le 17, 3) := by decide +kernel
theorem dX3_moveDown_9 : decode cX3_moveDown 9 = .ok (.iload_n 1, 1) := by decide +kernel
theorem dX3_moveDown_10 : decode cX3_moveDown 10 = .ok (.aload_n 0, 1) := by decide +kernel
theorem dX3_moveDown_11 : decode cX3_moveDown 11 = .ok (.getfield 27, 3) := by decide +kernel
theorem dX3_moveDown_14 : decode cX3_moveDown 14 = .ok (.if_icmp .ge 9, 3) := by decide +kernel
theorem dX3_moveDown_17 : decode cX3_moveDown 17 = .ok (.iload_n 1, 1) := by decide +kernel
theorem dX3_moveDown_18 : decode cX3_moveDown 18 = .ok (.bipush 120, 2) := by decide +kernel
theorem dX3_moveDown_20 : decode cX3_moveDown 20 = .ok (.if_icmp .lt 4, 3) := by decide +kernel
theorem dX3_moveDown_23 : decode cX3_moveDown 23 = .ok (.return_, 1) := by decide +kernel
theorem dX3_moveDown_24 : decode cX3_moveDown 24 = .ok (.aload_n 0, 1) := by decide +kernel
theorem dX3_moveDown_25 : decode cX3_moveDown 25 = .ok (.getfield 9, 3) := by decide +kernel
theorem dX3_moveDown_28 : decode cX3_moveDown 28 = .ok (.iload_n 1, 1) := by decide +kernel
theorem dX3_moveDown_29 : decode cX3_moveDown 29 = .ok (.iaload, 1) := by decide +kernel
theorem dX3_moveDown_30 : decode cX3_moveDown 30 = .ok (.istore_n 3, 1) := by decide +kernel
theorem dX3_moveDown_31 : decode cX3_moveDown 31 = .ok (.aload_n 0, 1) := by decide +kernel
theorem dX3_moveDown_32 : decode cX3_moveDown 32 = .ok (.getfield 9, 3) := by decide +kernel
theorem dX3_moveDown_35 : decode cX3_moveDown 35 = .ok (.iload_n 2, 1) := by decide +kernel
theorem dX3_moveDown_36 : decode cX3_moveDown 36 = .ok (.aload_n 0, 1) := by decide +kernel
theorem dX3_moveDown_37 : decode cX3_moveDown 37 = .ok (.getfield 9, 3) := by decide +kernel
theorem dX3_moveDown_40 : decode cX3_moveDown 40 = .ok (.iload_n 2, 1) := by decide +kernel
theorem dX3_moveDown_41 : decode cX3_moveDown 41 = .ok (.iconst 1, 1) := by decide +kernel
theorem dX3_moveDown_42 : decode cX3_moveDown 42 = .ok (.iadd, 1) := by decide +kernel
theorem dX3_moveDown_43 : decode cX3_moveDown 43 = .ok (.iload_n 1, 1) := by decide +kernel
theorem dX3_moveDown_44 : decode cX3_moveDown 44 = .ok (.iload_n 2, 1) := by decide +kernel
theorem dX3_moveDown_45 : decode cX3_moveDown 45 = .ok (.isub, 1) := by decide +kernel
theorem dX3_moveDown_46 : decode cX3_moveDown 46 = .ok (.invokestatic 71, 3) := by decide +kernel
theorem dX3_moveDown_49 : decode cX3_moveDown 49 = .ok (.aload_n 0, 1) := by decide +kernel
theorem dX3_moveDown_50 : decode cX3_moveDown 50 = .ok (.getfield 9, 3) := by decide +kernel
theorem dX3_moveDown_53 : decode cX3_moveDown 53 = .ok (.iload_n 2, 1) := by decide +kernel
theorem dX3_moveDown_54 : decode cX3_moveDown 54 = .ok (.iload_n 3, 1) := by decide +kernel
theorem dX3_moveDown_55 : decode cX3_moveDown 55 = .ok (.iastore, 1) := by decide +kernel
theorem dX3_moveDown_56 : decode cX3_moveDown 56 = .ok (.return_, 1) := by decide +kernel
theorem dX3_movePiece_0 : decode cX3_movePiece 0 = .ok (.iload_n 1, 1) := by decide +kernel
theorem dX3_movePiece_1 : decode cX3_movePiece 1 = .ok (.iload_n 2, 1) := by decide +kernel
theorem dX3_movePiece_2 : decode cX3_movePiece 2 = .ok (.invokestatic 84, 3) := by decide +kernel
theorem dX3_movePiece_5 : decode cX3_movePiece 5 = .ok (.ifCond .lt 13, 3) := by decide +kernel
theorem dX3_movePiece_8 : decode cX3_movePiece 8 = .ok (.iload_n 1, 1) := by decide +kernel
theorem dX3_movePiece_9 : decode cX3_movePiece 9 = .ok (.iload_n 2, 1) := by decide +kernel
theorem dX3_movePiece_10 : decode cX3_movePiece 10 = .ok (.invokestatic 90, 3) := by decide +kernel
theorem dX3_movePiece_13 : decode cX3_movePiece 13 = .ok (.bipush 62, 2) := by decide +kernel
theorem dX3_movePiece_15 : decode cX3_movePiece 15 = .ok (.if_icmp .lt 4, 3) := by decide +kernel
theorem dX3_movePiece_18 : decode cX3_movePiece 18 = .ok (.return_, 1) := by decide +kernel
theorem dX3_movePiece_19 : decode cX3_movePiece 19 = .ok (.aload_n 0, 1) := by decide +kernel
theorem dX3_movePiece_20 : decode cX3_movePiece 20 = .ok (.getfield 15, 3) := by decide +kernel
theorem dX3_movePiece_23 : decode cX3_movePiece 23 = .ok (.iload_n 2, 1) := by decide +kernel
theorem dX3_movePiece_24 : decode cX3_movePiece 24 = .ok (.aload_n 0, 1) := by decide +kernel
theorem dX3_movePiece_25 : decode cX3_movePiece 25 = .ok (.getfield 15, 3) := by decide +kernel
theorem dX3_movePiece_28 : decode cX3_movePiece 28 = .ok (.iload_n 1, 1) := by decide +kernel
theorem dX3_movePiece_29 : decode cX3_movePiece 29 = .ok (.iaload, 1) := by decide +kernel
theorem dX3_movePiece_30 : decode cX3_movePiece 30 = .ok (.iastore, 1) := by decide +kernel
theorem dX3_movePiece_31 : decode cX3_movePiece 31 = .ok (.aload_n 0, 1) := by decide +kernel
theorem dX3_movePiece_32 : decode cX3_movePiece 32 = .ok (.getfield 18, 3) := by decide +kernel
theorem dX3_movePiece_35 : decode cX3_movePiece 35 = .ok (.iload_n 2, 1) := by decide +kernel
theorem dX3_movePiece_36 : decode cX3_movePiece 36 = .ok (.aload_n 0, 1) := by decide +kernel
theorem dX3_movePiece_37 : decode cX3_movePiece 37 = .ok (.getfield 18, 3) := by decide +kernel
theorem dX3_movePiece_40 : decode cX3_movePiece 40 = .ok (.iload_n 1, 1) := by decide +kernel
theorem dX3_movePiece_41 : decode cX3_movePiece 41 = .ok (.iaload, 1) := by decide +kernel
theorem dX3_movePiece_42 : decode cX3_movePiece 42 = .ok (.iastore, 1) := by decide +kernel
theorem dX3_movePiece_43 : decode cX3_movePiece 43 = .ok (.aload_n 0, 1) := by decide +kernel
theorem dX3_movePiece_44 : decode cX3_movePiece 44 = .ok (.getfield 21, 3) := by decide +kernel
theorem dX3_movePiece_47 : decode cX3_movePiece 47 = .ok (.iload_n 2, 1) := by decide +kernel
theorem dX3_movePiece_48 : decode cX3_movePiece 48 = .ok (.aload_n 0, 1) := by decide +kernel
theorem dX3_movePiece_49 : decode cX3_movePiece 49 = .ok (.getfield 21, 3) := by decide +kernel
theorem dX3_movePiece_52 : decode cX3_movePiece 52 = .ok (.iload_n 1, 1) := by decide +kernel
theorem dX3_movePiece_53 : decode cX3_movePiece 53 = .ok (.iaload, 1) := by decide +kernel
theorem dX3_movePiece_54 : decode cX3_movePiece 54 = .ok (.iastore, 1) := by decide +kernel
theorem dX3_movePiece_55 : decode cX3_movePiece 55 = .ok (.aload_n 0, 1) := by decide +kernel
theorem dX3_movePiece_56 : decode cX3_movePiece 56 = .ok (.getfield 24, 3) := by decide +kernel
theorem dX3_movePiece_59 : decode cX3_movePiece 59 = .ok (.iload_n 2, 1) := by decide +kernel
theorem dX3_movePiece_60 : decode cX3_movePiece 60 = .ok (.aload_n 0, 1) := by decide +kernel
theorem dX3_movePiece_61 : decode cX3_movePiece 61 = .ok (.getfield 24, 3) := by decide +kernel
theorem dX3_movePiece_64 : decode cX3_movePiece 64 = .ok (.iload_n 1, 1) := by decide +kernel
theorem dX3_movePiece_65 : decode cX3_movePiece 65 = .ok (.iaload, 1) := by decide +kernel
theorem dX3_movePiece_66 : decode cX3_movePiece 66 = .ok (.iastore, 1) := by decide +kernel
theorem dX3_movePiece_67 : decode cX3_movePiece 67 = .ok (.return_, 1) := by decide +kernel
set_option maxRecDepth 20000 in
theorem ggX3_misplacedIn_X3_startOf : GoodIn wsX3_misplacedIn wsX3_startOf := goodIn_r _ [5, 6, 7, 8, 9, 10, 4, 11, 12, 33, 34, 35, 36, 37, 38, 39, 40] (by decide +kernel) (by decide +kernel)
set_option maxRecDepth 20000 in
theorem gX3_misplacedIn_X3_startOf : GoodIn wsX3_misplacedIn (wsV RX3 46 RX3 yX3_startOf wsX3_startOf) := goodIn_app (goodIn_of _ (by decide +kernel)) ggX3_misplacedIn_X3_startOf
set_option maxRecDepth 20000 in
theorem ggX3_misplacedIn_X3_rowAt : GoodIn wsX3_misplacedIn wsX3_rowAt := goodIn_r _ [16, 7, 17, 33, 34, 35, 36, 37, 38, 39, 40] (by decide +kernel) (by decide +kernel)
set_option maxRecDepth 20000 in
theorem gX3_misplacedIn_X3_rowAt : GoodIn wsX3_misplacedIn (wsV RX3 53 RX3 yX3_rowAt wsX3_rowAt) := goodIn_app (goodIn_of _ (by decide +kernel)) ggX3_misplacedIn_X3_rowAt
set_option maxRecDepth 20000 in
theorem ggX3_misplacedIn_X3_aheadOf : GoodIn wsX3_misplacedIn wsX3_aheadOf := goodIn_r _ [21, 22, 13, 14, 15, 4, 16, 7, 17, 23, 24, 25, 26, 27, 28, 29, 30, 31, 32, 33, 34, 35, 36, 37, 38, 39, 40, 41, 42, 43, 44] (by decide +kernel) (by decide +kernel)
set_option maxRecDepth 20000 in
theorem gX3_misplacedIn_X3_aheadOf : GoodIn wsX3_misplacedIn (wsV RX3 111 RX3 yX3_aheadOf wsX3_aheadOf) := goodIn_app (goodIn_of _ (by decide +kernel)) ggX3_misplacedIn_X3_aheadOf
theorem dX3_misplacedIn_0 : decode cX3_misplacedIn 0 = .ok (.aload_n 0, 1) := by decide +kernel
theorem dX3_misplacedIn_1 : decode cX3_misplacedIn 1 = .ok (.iload_n 1, 1) := by decide +kernel
theorem dX3_misplacedIn_2 : decode cX3_misplacedIn 2 = .ok (.invokevirtual 46, 3) := by decide +kernel
theorem dX3_misplacedIn_5 : decode cX3_misplacedIn 5 = .ok (.istore_n 2, 1) := by decide +kernel
theorem dX3_misplacedIn_6 : decode cX3_misplacedIn 6 = .ok (.aload_n 0, 1) := by decide +kernel
theorem dX3_misplacedIn_7 : decode cX3_misplacedIn 7 = .ok (.iload_n 1, 1) := by decide +kernel
theorem dX3_misplacedIn_8 : decode cX3_misplacedIn 8 = .ok (.iconst 1, 1) := by decide +kernel
theorem dX3_misplacedIn_9 : decode cX3_misplacedIn 9 = .ok (.iadd, 1) := by decide +kernel
theorem dX3_misplacedIn_10 : decode cX3_misplacedIn 10 = .ok (.invokevirtual 46, 3) := by decide +kernel
theorem dX3_misplacedIn_13 : decode cX3_misplacedIn 13 = .ok (.istore_n 3, 1) := by decide +kernel
theorem dX3_misplacedIn_14 : decode cX3_misplacedIn 14 = .ok (.iconst 0, 1) := by decide +kernel
theorem dX3_misplacedIn_15 : decode cX3_misplacedIn 15 = .ok (.istore 4, 2) := by decide +kernel
theorem dX3_misplacedIn_17 : decode cX3_misplacedIn 17 = .ok (.iload_n 2, 1) := by decide +kernel
theorem dX3_misplacedIn_18 : decode cX3_misplacedIn 18 = .ok (.istore 5, 2) := by decide +kernel
theorem dX3_misplacedIn_20 : decode cX3_misplacedIn 20 = .ok (.iload 5, 2) := by decide +kernel
theorem dX3_misplacedIn_22 : decode cX3_misplacedIn 22 = .ok (.iload_n 3, 1) := by decide +kernel
theorem dX3_misplacedIn_23 : decode cX3_misplacedIn 23 = .ok (.if_icmp .ge 38, 3) := by decide +kernel
theorem dX3_misplacedIn_26 : decode cX3_misplacedIn 26 = .ok (.iload 4, 2) := by decide +kernel
theorem dX3_misplacedIn_28 : decode cX3_misplacedIn 28 = .ok (.aload_n 0, 1) := by decide +kernel
theorem dX3_misplacedIn_29 : decode cX3_misplacedIn 29 = .ok (.aload_n 0, 1) := by decide +kernel
theorem dX3_misplacedIn_30 : decode cX3_misplacedIn 30 = .ok (.iload 5, 2) := by decide +kernel
theorem dX3_misplacedIn_32 : decode cX3_misplacedIn 32 = .ok (.invokevirtual 53, 3) := by decide +kernel
theorem dX3_misplacedIn_35 : decode cX3_misplacedIn 35 = .ok (.iload_n 2, 1) := by decide +kernel
theorem dX3_misplacedIn_36 : decode cX3_misplacedIn 36 = .ok (.iload_n 3, 1) := by decide +kernel
theorem dX3_misplacedIn_37 : decode cX3_misplacedIn 37 = .ok (.invokevirtual 111, 3) := by decide +kernel
theorem dX3_misplacedIn_40 : decode cX3_misplacedIn 40 = .ok (.iload 5, 2) := by decide +kernel
theorem dX3_misplacedIn_42 : decode cX3_misplacedIn 42 = .ok (.iload_n 2, 1) := by decide +kernel
theorem dX3_misplacedIn_43 : decode cX3_misplacedIn 43 = .ok (.isub, 1) := by decide +kernel
theorem dX3_misplacedIn_44 : decode cX3_misplacedIn 44 = .ok (.if_icmp .eq 7, 3) := by decide +kernel
theorem dX3_misplacedIn_47 : decode cX3_misplacedIn 47 = .ok (.iconst 1, 1) := by decide +kernel
theorem dX3_misplacedIn_48 : decode cX3_misplacedIn 48 = .ok (.goto 4, 3) := by decide +kernel
theorem dX3_misplacedIn_51 : decode cX3_misplacedIn 51 = .ok (.iconst 0, 1) := by decide +kernel
theorem dX3_misplacedIn_52 : decode cX3_misplacedIn 52 = .ok (.iadd, 1) := by decide +kernel
theorem dX3_misplacedIn_53 : decode cX3_misplacedIn 53 = .ok (.istore 4, 2) := by decide +kernel
theorem dX3_misplacedIn_55 : decode cX3_misplacedIn 55 = .ok (.iinc 5 1, 3) := by decide +kernel
theorem dX3_misplacedIn_58 : decode cX3_misplacedIn 58 = .ok (.goto (-38), 3) := by decide +kernel
theorem dX3_misplacedIn_61 : decode cX3_misplacedIn 61 = .ok (.iload 4, 2) := by decide +kernel
theorem dX3_misplacedIn_63 : decode cX3_misplacedIn 63 = .ok (.ireturn, 1) := by decide +kernel
set_option maxRecDepth 20000 in
theorem ggX3_aheadOf_X3_rowAt : GoodIn wsX3_aheadOf wsX3_rowAt := goodIn_r _ [6, 7, 8, 19, 20, 21, 22, 23, 24, 25, 26] (by decide +kernel) (by decide +kernel)
set_option maxRecDepth 20000 in
theorem gX3_aheadOf_X3_rowAt : GoodIn wsX3_aheadOf (wsV RX3 53 RX3 yX3_rowAt wsX3_rowAt) := goodIn_app (goodIn_of _ (by decide +kernel)) ggX3_aheadOf_X3_rowAt
set_option maxRecDepth 20000 in
theorem ggX3_aheadOf_X6_isAhead : GoodIn wsX3_aheadOf wsX6_isAhead := goodIn_r _ [13, 14, 15, 16, 12, 17, 18, 27, 28, 29, 30] (by decide +kernel) (by decide +kernel)
set_option maxRecDepth 20000 in
theorem gX3_aheadOf_X6_isAhead : GoodIn wsX3_aheadOf (wsV RX3 67 RX6 yX6_isAhead wsX6_isAhead) := goodIn_app (goodIn_of _ (by decide +kernel)) ggX3_aheadOf_X6_isAhead
theorem dX3_aheadOf_0 : decode cX3_aheadOf 0 = .ok (.iconst 0, 1) := by decide +kernel
theorem dX3_aheadOf_1 : decode cX3_aheadOf 1 = .ok (.istore 4, 2) := by decide +kernel
theorem dX3_aheadOf_3 : decode cX3_aheadOf 3 = .ok (.iload_n 2, 1) := by decide +kernel
theorem dX3_aheadOf_4 : decode cX3_aheadOf 4 = .ok (.istore 5, 2) := by decide +kernel
theorem dX3_aheadOf_6 : decode cX3_aheadOf 6 = .ok (.iload 5, 2) := by decide +kernel
theorem dX3_aheadOf_8 : decode cX3_aheadOf 8 = .ok (.iload_n 3, 1) := by decide +kernel
theorem dX3_aheadOf_9 : decode cX3_aheadOf 9 = .ok (.if_icmp .ge 36, 3) := by decide +kernel
theorem dX3_aheadOf_12 : decode cX3_aheadOf 12 = .ok (.iload 4, 2) := by decide +kernel
theorem dX3_aheadOf_14 : decode cX3_aheadOf 14 = .ok (.aload_n 0, 1) := by decide +kernel
theorem dX3_aheadOf_15 : decode cX3_aheadOf 15 = .ok (.getfield 34, 3) := by decide +kernel
theorem dX3_aheadOf_18 : decode cX3_aheadOf 18 = .ok (.aload_n 0, 1) := by decide +kernel
theorem dX3_aheadOf_19 : decode cX3_aheadOf 19 = .ok (.iload 5, 2) := by decide +kernel
theorem dX3_aheadOf_21 : decode cX3_aheadOf 21 = .ok (.invokevirtual 53, 3) := by decide +kernel
theorem dX3_aheadOf_24 : decode cX3_aheadOf 24 = .ok (.iload_n 1, 1) := by decide +kernel
theorem dX3_aheadOf_25 : decode cX3_aheadOf 25 = .ok (.invokevirtual 67, 3) := by decide +kernel
theorem dX3_aheadOf_28 : decode cX3_aheadOf 28 = .ok (.ifCond .eq 7, 3) := by decide +kernel
theorem dX3_aheadOf_31 : decode cX3_aheadOf 31 = .ok (.iconst 1, 1) := by decide +kernel
theorem dX3_aheadOf_32 : decode cX3_aheadOf 32 = .ok (.goto 4, 3) := by decide +kernel
theorem dX3_aheadOf_35 : decode cX3_aheadOf 35 = .ok (.iconst 0, 1) := by decide +kernel
theorem dX3_aheadOf_36 : decode cX3_aheadOf 36 = .ok (.iadd, 1) := by decide +kernel
theorem dX3_aheadOf_37 : decode cX3_aheadOf 37 = .ok (.istore 4, 2) := by decide +kernel
theorem dX3_aheadOf_39 : decode cX3_aheadOf 39 = .ok (.iinc 5 1, 3) := by decide +kernel
theorem dX3_aheadOf_42 : decode cX3_aheadOf 42 = .ok (.goto (-36), 3) := by decide +kernel
theorem dX3_aheadOf_45 : decode cX3_aheadOf 45 = .ok (.iload 4, 2) := by decide +kernel
theorem dX3_aheadOf_47 : decode cX3_aheadOf 47 = .ok (.ireturn, 1) := by decide +kernel
set_option maxRecDepth 20000 in
theorem ggX3_putInOrder_X3_has : GoodIn wsX3_putInOrder wsX3_has := goodIn_r _ [6, 7, 42, 43, 44, 45, 46, 47, 48, 49] (by decide +kernel) (by decide +kernel)
set_option maxRecDepth 20000 in
theorem gX3_putInOrder_X3_has : GoodIn wsX3_putInOrder (wsV RX3 42 RX3 yX3_has wsX3_has) := goodIn_app (goodIn_of _ (by decide +kernel)) ggX3_putInOrder_X3_has
set_option maxRecDepth 20000 in
theorem ggX3_putInOrder_X3_startOf : GoodIn wsX3_putInOrder wsX3_startOf := goodIn_r _ [11, 12, 13, 2, 3, 4, 5, 6, 7, 42, 43, 44, 45, 46, 47, 48, 49] (by decide +kernel) (by decide +kernel)
set_option maxRecDepth 20000 in
theorem gX3_putInOrder_X3_startOf : GoodIn wsX3_putInOrder (wsV RX3 46 RX3 yX3_startOf wsX3_startOf) := goodIn_app (goodIn_of _ (by decide +kernel)) ggX3_putInOrder_X3_startOf
set_option maxRecDepth 20000 in
theorem ggX3_putInOrder_X3_slideDown : GoodIn wsX3_putInOrder wsX3_slideDown := goodIn_r _ [17, 18, 19, 20, 21, 5, 22, 13, 23, 24, 25, 26, 27, 28, 29, 30, 31, 32, 33, 34, 35, 36, 37, 38, 39, 40, 41, 42, 43, 44, 45, 46, 47, 48, 49, 50, 51, 52, 53] (by decide +kernel) (by decide +kernel)
set_option maxRecDepth 20000 in
theorem gX3_putInOrder_X3_slideDown : GoodIn wsX3_putInOrder (wsV RX3 115 RX3 yX3_slideDown wsX3_slideDown) := goodIn_app (goodIn_of _ (by decide +kernel)) ggX3_putInOrder_X3_slideDown
theorem dX3_putInOrder_0 : decode cX3_putInOrder 0 = .ok (.aload_n 0, 1) := by decide +kernel
theorem dX3_putInOrder_1 : decode cX3_putInOrder 1 = .ok (.iload_n 1, 1) := by decide +kernel
theorem dX3_putInOrder_2 : decode cX3_putInOrder 2 = .ok (.invokevirtual 42, 3) := by decide +kernel
theorem dX3_putInOrder_5 : decode cX3_putInOrder 5 = .ok (.ifCond .ne 4, 3) := by decide +kernel
theorem dX3_putInOrder_8 : decode cX3_putInOrder 8 = .ok (.return_, 1) := by decide +kernel
theorem dX3_putInOrder_9 : decode cX3_putInOrder 9 = .ok (.aload_n 0, 1) := by decide +kernel
theorem dX3_putInOrder_10 : decode cX3_putInOrder 10 = .ok (.iload_n 1, 1) := by decide +kernel
theorem dX3_putInOrder_11 : decode cX3_putInOrder 11 = .ok (.invokevirtual 46, 3) := by decide +kernel
theorem dX3_putInOrder_14 : decode cX3_putInOrder 14 = .ok (.istore_n 2, 1) := by decide +kernel
theorem dX3_putInOrder_15 : decode cX3_putInOrder 15 = .ok (.aload_n 0, 1) := by decide +kernel
theorem dX3_putInOrder_16 : decode cX3_putInOrder 16 = .ok (.iload_n 1, 1) := by decide +kernel
theorem dX3_putInOrder_17 : decode cX3_putInOrder 17 = .ok (.iconst 1, 1) := by decide +kernel
theorem dX3_putInOrder_18 : decode cX3_putInOrder 18 = .ok (.iadd, 1) := by decide +kernel
theorem dX3_putInOrder_19 : decode cX3_putInOrder 19 = .ok (.invokevirtual 46, 3) := by decide +kernel
theorem dX3_putInOrder_22 : decode cX3_putInOrder 22 = .ok (.istore_n 3, 1) := by decide +kernel
theorem dX3_putInOrder_23 : decode cX3_putInOrder 23 = .ok (.iload_n 2, 1) := by decide +kernel
theorem dX3_putInOrder_24 : decode cX3_putInOrder 24 = .ok (.iconst 1, 1) := by decide +kernel
theorem dX3_putInOrder_25 : decode cX3_putInOrder 25 = .ok (.iadd, 1) := by decide +kernel
theorem dX3_putInOrder_26 : decode cX3_putInOrder 26 = .ok (.istore 4, 2) := by decide +kernel
theorem dX3_putInOrder_28 : decode cX3_putInOrder 28 = .ok (.iload 4, 2) := by decide +kernel
theorem dX3_putInOrder_30 : decode cX3_putInOrder 30 = .ok (.iload_n 3, 1) := by decide +kernel
theorem dX3_putInOrder_31 : decode cX3_putInOrder 31 = .ok (.if_icmp .ge 16, 3) := by decide +kernel
theorem dX3_putInOrder_34 : decode cX3_putInOrder 34 = .ok (.aload_n 0, 1) := by decide +kernel
theorem dX3_putInOrder_35 : decode cX3_putInOrder 35 = .ok (.iload_n 2, 1) := by decide +kernel
theorem dX3_putInOrder_36 : decode cX3_putInOrder 36 = .ok (.iload 4, 2) := by decide +kernel
theorem dX3_putInOrder_38 : decode cX3_putInOrder 38 = .ok (.invokevirtual 115, 3) := by decide +kernel
theorem dX3_putInOrder_41 : decode cX3_putInOrder 41 = .ok (.iinc 4 1, 3) := by decide +kernel
theorem dX3_putInOrder_44 : decode cX3_putInOrder 44 = .ok (.goto (-16), 3) := by decide +kernel
theorem dX3_putInOrder_47 : decode cX3_putInOrder 47 = .ok (.aload_n 0, 1) := by decide +kernel
theorem dX3_putInOrder_48 : decode cX3_putInOrder 48 = .ok (.getfield 24, 3) := by decide +kernel
theorem dX3_putInOrder_51 : decode cX3_putInOrder 51 = .ok (.iload_n 1, 1) := by decide +kernel
theorem dX3_putInOrder_52 : decode cX3_putInOrder 52 = .ok (.iconst 1, 1) := by decide +kernel
theorem dX3_putInOrder_53 : decode cX3_putInOrder 53 = .ok (.iastore, 1) := by decide +kernel
theorem dX3_putInOrder_54 : decode cX3_putInOrder 54 = .ok (.return_, 1) := by decide +kernel
set_option maxRecDepth 20000 in
theorem ggX3_slideDown_X3_rowAt : GoodIn wsX3_slideDown wsX3_rowAt := goodIn_r _ [6, 7, 8, 27, 28, 29, 30, 31, 32, 33, 34] (by decide +kernel) (by decide +kernel)
set_option maxRecDepth 20000 in
theorem gX3_slideDown_X3_rowAt : GoodIn wsX3_slideDown (wsV RX3 53 RX3 yX3_rowAt wsX3_rowAt) := goodIn_app (goodIn_of _ (by decide +kernel)) ggX3_slideDown_X3_rowAt
set_option maxRecDepth 20000 in
theorem ggX3_slideDown_X6_isAhead : GoodIn wsX3_slideDown wsX6_isAhead := goodIn_r _ [13, 14, 15, 16, 12, 17, 18, 35, 36, 37, 38] (by decide +kernel) (by decide +kernel)
set_option maxRecDepth 20000 in
theorem gX3_slideDown_X6_isAhead : GoodIn wsX3_slideDown (wsV RX3 67 RX6 yX6_isAhead wsX6_isAhead) := goodIn_app (goodIn_of _ (by decide +kernel)) ggX3_slideDown_X6_isAhead
set_option maxRecDepth 20000 in
theorem ggX3_slideDown_X3_moveDown : GoodIn wsX3_slideDown wsX3_moveDown := goodIn_r _ [22, 7, 8, 23, 24, 25, 26, 27, 28, 29, 30, 31, 32, 33, 34] (by decide +kernel) (by decide +kernel)
set_option maxRecDepth 20000 in
theorem gX3_slideDown_X3_moveDown : GoodIn wsX3_slideDown (wsV RX3 108 RX3 yX3_moveDown wsX3_moveDown) := goodIn_app (goodIn_of _ (by decide +kernel)) ggX3_slideDown_X3_moveDown
theorem dX3_slideDown_0 : decode cX3_slideDown 0 = .ok (.aload_n 0, 1) := by decide +kernel
theorem dX3_slideDown_1 : decode cX3_slideDown 1 = .ok (.iload_n 2, 1) := by decide +kernel
theorem dX3_slideDown_2 : decode cX3_slideDown 2 = .ok (.invokevirtual 53, 3) := by decide +kernel
theorem dX3_slideDown_5 : decode cX3_slideDown 5 = .ok (.istore_n 3, 1) := by decide +kernel
theorem dX3_slideDown_6 : decode cX3_slideDown 6 = .ok (.iload_n 2, 1) := by decide +kernel
theorem dX3_slideDown_7 : decode cX3_slideDown 7 = .ok (.istore 4, 2) := by decide +kernel
theorem dX3_slideDown_9 : decode cX3_slideDown 9 = .ok (.iload 4, 2) := by decide +kernel
theorem dX3_slideDown_11 : decode cX3_slideDown 11 = .ok (.iload_n 1, 1) := by decide +kernel
theorem dX3_slideDown_12 : decode cX3_slideDown 12 = .ok (.if_icmp .le 28, 3) := by decide +kernel
theorem dX3_slideDown_15 : decode cX3_slideDown 15 = .ok (.aload_n 0, 1) := by decide +kernel
theorem dX3_slideDown_16 : decode cX3_slideDown 16 = .ok (.getfield 34, 3) := by decide +kernel
theorem dX3_slideDown_19 : decode cX3_slideDown 19 = .ok (.iload_n 3, 1) := by decide +kernel
theorem dX3_slideDown_20 : decode cX3_slideDown 20 = .ok (.aload_n 0, 1) := by decide +kernel
theorem dX3_slideDown_21 : decode cX3_slideDown 21 = .ok (.iload 4, 2) := by decide +kernel
theorem dX3_slideDown_23 : decode cX3_slideDown 23 = .ok (.iconst 1, 1) := by decide +kernel
theorem dX3_slideDown_24 : decode cX3_slideDown 24 = .ok (.isub, 1) := by decide +kernel
theorem dX3_slideDown_25 : decode cX3_slideDown 25 = .ok (.invokevirtual 53, 3) := by decide +kernel
theorem dX3_slideDown_28 : decode cX3_slideDown 28 = .ok (.invokevirtual 67, 3) := by decide +kernel
theorem dX3_slideDown_31 : decode cX3_slideDown 31 = .ok (.ifCond .eq 9, 3) := by decide +kernel
theorem dX3_slideDown_34 : decode cX3_slideDown 34 = .ok (.iinc 4 (-1), 3) := by decide +kernel
theorem dX3_slideDown_37 : decode cX3_slideDown 37 = .ok (.goto (-28), 3) := by decide +kernel
theorem dX3_slideDown_40 : decode cX3_slideDown 40 = .ok (.aload_n 0, 1) := by decide +kernel
theorem dX3_slideDown_41 : decode cX3_slideDown 41 = .ok (.iload_n 2, 1) := by decide +kernel
theorem dX3_slideDown_42 : decode cX3_slideDown 42 = .ok (.iload 4, 2) := by decide +kernel
theorem dX3_slideDown_44 : decode cX3_slideDown 44 = .ok (.invokevirtual 108, 3) := by decide +kernel
theorem dX3_slideDown_47 : decode cX3_slideDown 47 = .ok (.return_, 1) := by decide +kernel
set_option maxRecDepth 20000 in
theorem ggX3_warm_X3_has : GoodIn wsX3_warm wsX3_has := goodIn_r _ [6, 7, 8, 9, 10, 11, 12, 13, 14, 15] (by decide +kernel) (by decide +kernel)
set_option maxRecDepth 20000 in
theorem gX3_warm_X3_has : GoodIn wsX3_warm (wsV RX3 42 RX3 yX3_has wsX3_has) := goodIn_app (goodIn_of _ (by decide +kernel)) ggX3_warm_X3_has
theorem dX3_warm_0 : decode cX3_warm 0 = .ok (.aload_n 0, 1) := by decide +kernel
theorem dX3_warm_1 : decode cX3_warm 1 = .ok (.iload_n 1, 1) := by decide +kernel
theorem dX3_warm_2 : decode cX3_warm 2 = .ok (.invokevirtual 42, 3) := by decide +kernel
theorem dX3_warm_5 : decode cX3_warm 5 = .ok (.ifCond .eq 13, 3) := by decide +kernel
theorem dX3_warm_8 : decode cX3_warm 8 = .ok (.aload_n 0, 1) := by decide +kernel
theorem dX3_warm_9 : decode cX3_warm 9 = .ok (.getfield 21, 3) := by decide +kernel
theorem dX3_warm_12 : decode cX3_warm 12 = .ok (.iload_n 1, 1) := by decide +kernel
theorem dX3_warm_13 : decode cX3_warm 13 = .ok (.dup2, 1) := by decide +kernel
theorem dX3_warm_14 : decode cX3_warm 14 = .ok (.iaload, 1) := by decide +kernel
theorem dX3_warm_15 : decode cX3_warm 15 = .ok (.iconst 1, 1) := by decide +kernel
theorem dX3_warm_16 : decode cX3_warm 16 = .ok (.iadd, 1) := by decide +kernel
theorem dX3_warm_17 : decode cX3_warm 17 = .ok (.iastore, 1) := by decide +kernel
theorem dX3_warm_18 : decode cX3_warm 18 = .ok (.return_, 1) := by decide +kernel
set_option maxRecDepth 20000 in
theorem ggX3_joinNext_X3_has : GoodIn wsX3_joinNext wsX3_has := goodIn_r _ [8, 3, 22, 23, 24, 25, 26, 27, 28, 29] (by decide +kernel) (by decide +kernel)
set_option maxRecDepth 20000 in
theorem gX3_joinNext_X3_has : GoodIn wsX3_joinNext (wsV RX3 42 RX3 yX3_has wsX3_has) := goodIn_app (goodIn_of _ (by decide +kernel)) ggX3_joinNext_X3_has
set_option maxRecDepth 20000 in
theorem ggX3_joinNext_X3_movePiece : GoodIn wsX3_joinNext wsX3_movePiece := goodIn_r _ [12, 13, 14, 15, 16, 17, 18, 19, 20, 21, 1, 2, 22, 23, 24, 25, 26, 27, 28, 29] (by decide +kernel) (by decide +kernel)
set_option maxRecDepth 20000 in
theorem gX3_joinNext_X3_movePiece : GoodIn wsX3_joinNext (wsV RX3 105 RX3 yX3_movePiece wsX3_movePiece) := goodIn_app (goodIn_of _ (by decide +kernel)) ggX3_joinNext_X3_movePiece
theorem dX3_joinNext_0 : decode cX3_joinNext 0 = .ok (.aload_n 0, 1) := by decide +kernel
theorem dX3_joinNext_1 : decode cX3_joinNext 1 = .ok (.iload_n 1, 1) := by decide +kernel
theorem dX3_joinNext_2 : decode cX3_joinNext 2 = .ok (.invokevirtual 42, 3) := by decide +kernel
theorem dX3_joinNext_5 : decode cX3_joinNext 5 = .ok (.ifCond .eq 13, 3) := by decide +kernel
theorem dX3_joinNext_8 : decode cX3_joinNext 8 = .ok (.aload_n 0, 1) := by decide +kernel
theorem dX3_joinNext_9 : decode cX3_joinNext 9 = .ok (.iload_n 1, 1) := by decide +kernel
theorem dX3_joinNext_10 : decode cX3_joinNext 10 = .ok (.iconst 1, 1) := by decide +kernel
theorem dX3_joinNext_11 : decode cX3_joinNext 11 = .ok (.iadd, 1) := by decide +kernel
theorem dX3_joinNext_12 : decode cX3_joinNext 12 = .ok (.invokevirtual 42, 3) := by decide +kernel
theorem dX3_joinNext_15 : decode cX3_joinNext 15 = .ok (.ifCond .ne 4, 3) := by decide +kernel
theorem dX3_joinNext_18 : decode cX3_joinNext 18 = .ok (.return_, 1) := by decide +kernel
theorem dX3_joinNext_19 : decode cX3_joinNext 19 = .ok (.aload_n 0, 1) := by decide +kernel
theorem dX3_joinNext_20 : decode cX3_joinNext 20 = .ok (.getfield 21, 3) := by decide +kernel
theorem dX3_joinNext_23 : decode cX3_joinNext 23 = .ok (.iload_n 1, 1) := by decide +kernel
theorem dX3_joinNext_24 : decode cX3_joinNext 24 = .ok (.dup2, 1) := by decide +kernel
theorem dX3_joinNext_25 : decode cX3_joinNext 25 = .ok (.iaload, 1) := by decide +kernel
theorem dX3_joinNext_26 : decode cX3_joinNext 26 = .ok (.aload_n 0, 1) := by decide +kernel
theorem dX3_joinNext_27 : decode cX3_joinNext 27 = .ok (.getfield 21, 3) := by decide +kernel
theorem dX3_joinNext_30 : decode cX3_joinNext 30 = .ok (.iload_n 1, 1) := by decide +kernel
theorem dX3_joinNext_31 : decode cX3_joinNext 31 = .ok (.iconst 1, 1) := by decide +kernel
theorem dX3_joinNext_32 : decode cX3_joinNext 32 = .ok (.iadd, 1) := by decide +kernel
theorem dX3_joinNext_33 : decode cX3_joinNext 33 = .ok (.iaload, 1) := by decide +kernel
theorem dX3_joinNext_34 : decode cX3_joinNext 34 = .ok (.iadd, 1) := by decide +kernel
theorem dX3_joinNext_35 : decode cX3_joinNext 35 = .ok (.iastore, 1) := by decide +kernel
theorem dX3_joinNext_36 : decode cX3_joinNext 36 = .ok (.aload_n 0, 1) := by decide +kernel
theorem dX3_joinNext_37 : decode cX3_joinNext 37 = .ok (.getfield 24, 3) := by decide +kernel
theorem dX3_joinNext_40 : decode cX3_joinNext 40 = .ok (.iload_n 1, 1) := by decide +kernel
theorem dX3_joinNext_41 : decode cX3_joinNext 41 = .ok (.dup2, 1) := by decide +kernel
theorem dX3_joinNext_42 : decode cX3_joinNext 42 = .ok (.iaload, 1) := by decide +kernel
theorem dX3_joinNext_43 : decode cX3_joinNext 43 = .ok (.aload_n 0, 1) := by decide +kernel
theorem dX3_joinNext_44 : decode cX3_joinNext 44 = .ok (.getfield 24, 3) := by decide +kernel
theorem dX3_joinNext_47 : decode cX3_joinNext 47 = .ok (.iload_n 1, 1) := by decide +kernel
theorem dX3_joinNext_48 : decode cX3_joinNext 48 = .ok (.iconst 1, 1) := by decide +kernel
theorem dX3_joinNext_49 : decode cX3_joinNext 49 = .ok (.iadd, 1) := by decide +kernel
theorem dX3_joinNext_50 : decode cX3_joinNext 50 = .ok (.iaload, 1) := by decide +kernel
theorem dX3_joinNext_51 : decode cX3_joinNext 51 = .ok (.imul, 1) := by decide +kernel
theorem dX3_joinNext_52 : decode cX3_joinNext 52 = .ok (.iastore, 1) := by decide +kernel
theorem dX3_joinNext_53 : decode cX3_joinNext 53 = .ok (.iload_n 1, 1) := by decide +kernel
theorem dX3_joinNext_54 : decode cX3_joinNext 54 = .ok (.iconst 2, 1) := by decide +kernel
theorem dX3_joinNext_55 : decode cX3_joinNext 55 = .ok (.iadd, 1) := by decide +kernel
theorem dX3_joinNext_56 : decode cX3_joinNext 56 = .ok (.istore_n 2, 1) := by decide +kernel
theorem dX3_joinNext_57 : decode cX3_joinNext 57 = .ok (.iload_n 2, 1) := by decide +kernel
theorem dX3_joinNext_58 : decode cX3_joinNext 58 = .ok (.aload_n 0, 1) := by decide +kernel
theorem dX3_joinNext_59 : decode cX3_joinNext 59 = .ok (.getfield 31, 3) := by decide +kernel
theorem dX3_joinNext_62 : decode cX3_joinNext 62 = .ok (.if_icmp .ge 17, 3) := by decide +kernel
theorem dX3_joinNext_65 : decode cX3_joinNext 65 = .ok (.aload_n 0, 1) := by decide +kernel
theorem dX3_joinNext_66 : decode cX3_joinNext 66 = .ok (.iload_n 2, 1) := by decide +kernel
theorem dX3_joinNext_67 : decode cX3_joinNext 67 = .ok (.iload_n 2, 1) := by decide +kernel
theorem dX3_joinNext_68 : decode cX3_joinNext 68 = .ok (.iconst 1, 1) := by decide +kernel
theorem dX3_joinNext_69 : decode cX3_joinNext 69 = .ok (.isub, 1) := by decide +kernel
theorem dX3_joinNext_70 : decode cX3_joinNext 70 = .ok (.invokevirtual 105, 3) := by decide +kernel
theorem dX3_joinNext_73 : decode cX3_joinNext 73 = .ok (.iinc 2 1, 3) := by decide +kernel
theorem dX3_joinNext_76 : decode cX3_joinNext 76 = .ok (.goto (-19), 3) := by decide +kernel
theorem dX3_joinNext_79 : decode cX3_joinNext 79 = .ok (.aload_n 0, 1) := by decide +kernel
theorem dX3_joinNext_80 : decode cX3_joinNext 80 = .ok (.dup, 1) := by decide +kernel
theorem dX3_joinNext_81 : decode cX3_joinNext 81 = .ok (.getfield 31, 3) := by decide +kernel
theorem dX3_joinNext_84 : decode cX3_joinNext 84 = .ok (.iconst 1, 1) := by decide +kernel
theorem dX3_joinNext_85 : decode cX3_joinNext 85 = .ok (.isub, 1) := by decide +kernel
theorem dX3_joinNext_86 : decode cX3_joinNext 86 = .ok (.putfield 31, 3) := by decide +kernel
theorem dX3_joinNext_89 : decode cX3_joinNext 89 = .ok (.return_, 1) := by decide +kernel
set_option maxRecDepth 20000 in
theorem ggX3_hottestPiece_X3_heatOf : GoodIn wsX3_hottestPiece wsX3_heatOf := goodIn_r _ [6, 7, 8, 9, 10, 5, 11, 1, 12, 13, 14, 15, 16, 17, 18, 19] (by decide +kernel) (by decide +kernel)
set_option maxRecDepth 20000 in
theorem gX3_hottestPiece_X3_heatOf : GoodIn wsX3_hottestPiece (wsV RX3 118 RX3 yX3_heatOf wsX3_heatOf) := goodIn_app (goodIn_of _ (by decide +kernel)) ggX3_hottestPiece_X3_heatOf
theorem dX3_hottestPiece_0 : decode cX3_hottestPiece 0 = .ok (.iconst 0, 1) := by decide +kernel
theorem dX3_hottestPiece_1 : decode cX3_hottestPiece 1 = .ok (.istore_n 1, 1) := by decide +kernel
theorem dX3_hottestPiece_2 : decode cX3_hottestPiece 2 = .ok (.iconst 1, 1) := by decide +kernel
theorem dX3_hottestPiece_3 : decode cX3_hottestPiece 3 = .ok (.istore_n 2, 1) := by decide +kernel
theorem dX3_hottestPiece_4 : decode cX3_hottestPiece 4 = .ok (.iload_n 2, 1) := by decide +kernel
theorem dX3_hottestPiece_5 : decode cX3_hottestPiece 5 = .ok (.aload_n 0, 1) := by decide +kernel
theorem dX3_hottestPiece_6 : decode cX3_hottestPiece 6 = .ok (.getfield 31, 3) := by decide +kernel
theorem dX3_hottestPiece_9 : decode cX3_hottestPiece 9 = .ok (.if_icmp .ge 28, 3) := by decide +kernel
theorem dX3_hottestPiece_12 : decode cX3_hottestPiece 12 = .ok (.aload_n 0, 1) := by decide +kernel
theorem dX3_hottestPiece_13 : decode cX3_hottestPiece 13 = .ok (.iload_n 2, 1) := by decide +kernel
theorem dX3_hottestPiece_14 : decode cX3_hottestPiece 14 = .ok (.invokevirtual 118, 3) := by decide +kernel
theorem dX3_hottestPiece_17 : decode cX3_hottestPiece 17 = .ok (.aload_n 0, 1) := by decide +kernel
theorem dX3_hottestPiece_18 : decode cX3_hottestPiece 18 = .ok (.iload_n 1, 1) := by decide +kernel
theorem dX3_hottestPiece_19 : decode cX3_hottestPiece 19 = .ok (.invokevirtual 118, 3) := by decide +kernel
theorem dX3_hottestPiece_22 : decode cX3_hottestPiece 22 = .ok (.if_icmp .le 7, 3) := by decide +kernel
theorem dX3_hottestPiece_25 : decode cX3_hottestPiece 25 = .ok (.iload_n 2, 1) := by decide +kernel
theorem dX3_hottestPiece_26 : decode cX3_hottestPiece 26 = .ok (.goto 4, 3) := by decide +kernel
theorem dX3_hottestPiece_29 : decode cX3_hottestPiece 29 = .ok (.iload_n 1, 1) := by decide +kernel
theorem dX3_hottestPiece_30 : decode cX3_hottestPiece 30 = .ok (.istore_n 1, 1) := by decide +kernel
theorem dX3_hottestPiece_31 : decode cX3_hottestPiece 31 = .ok (.iinc 2 1, 3) := by decide +kernel
theorem dX3_hottestPiece_34 : decode cX3_hottestPiece 34 = .ok (.goto (-30), 3) := by decide +kernel
theorem dX3_hottestPiece_37 : decode cX3_hottestPiece 37 = .ok (.iload_n 1, 1) := by decide +kernel
theorem dX3_hottestPiece_38 : decode cX3_hottestPiece 38 = .ok (.ireturn, 1) := by decide +kernel
set_option maxRecDepth 20000 in
theorem ggX3_coldestOfPairs_X3_pairHeat : GoodIn wsX3_coldestOfPairs wsX3_pairHeat := goodIn_r _ [6, 7, 8, 9, 5, 10, 11, 12, 13, 14, 15, 1, 16, 17, 18, 19, 20, 21, 22, 23] (by decide +kernel) (by decide +kernel)
set_option maxRecDepth 20000 in
theorem gX3_coldestOfPairs_X3_pairHeat : GoodIn wsX3_coldestOfPairs (wsV RX3 121 RX3 yX3_pairHeat wsX3_pairHeat) := goodIn_app (goodIn_of _ (by decide +kernel)) ggX3_coldestOfPairs_X3_pairHeat
theorem dX3_coldestOfPairs_0 : decode cX3_coldestOfPairs 0 = .ok (.iconst (-1), 1) := by decide +kernel
theorem dX3_coldestOfPairs_1 : decode cX3_coldestOfPairs 1 = .ok (.istore_n 1, 1) := by decide +kernel
theorem dX3_coldestOfPairs_2 : decode cX3_coldestOfPairs 2 = .ok (.iconst 0, 1) := by decide +kernel
theorem dX3_coldestOfPairs_3 : decode cX3_coldestOfPairs 3 = .ok (.istore_n 2, 1) := by decide +kernel
theorem dX3_coldestOfPairs_4 : decode cX3_coldestOfPairs 4 = .ok (.iload_n 2, 1) := by decide +kernel
theorem dX3_coldestOfPairs_5 : decode cX3_coldestOfPairs 5 = .ok (.aload_n 0, 1) := by decide +kernel
theorem dX3_coldestOfPairs_6 : decode cX3_coldestOfPairs 6 = .ok (.getfield 31, 3) := by decide +kernel
theorem dX3_coldestOfPairs_9 : decode cX3_coldestOfPairs 9 = .ok (.iconst 1, 1) := by decide +kernel
theorem dX3_coldestOfPairs_10 : decode cX3_coldestOfPairs 10 = .ok (.isub, 1) := by decide +kernel
theorem dX3_coldestOfPairs_11 : decode cX3_coldestOfPairs 11 = .ok (.if_icmp .ge 33, 3) := by decide +kernel
theorem dX3_coldestOfPairs_14 : decode cX3_coldestOfPairs 14 = .ok (.iload_n 1, 1) := by decide +kernel
theorem dX3_coldestOfPairs_15 : decode cX3_coldestOfPairs 15 = .ok (.iconst (-1), 1) := by decide +kernel
theorem dX3_coldestOfPairs_16 : decode cX3_coldestOfPairs 16 = .ok (.if_icmp .eq 16, 3) := by decide +kernel
theorem dX3_coldestOfPairs_19 : decode cX3_coldestOfPairs 19 = .ok (.aload_n 0, 1) := by decide +kernel
theorem dX3_coldestOfPairs_20 : decode cX3_coldestOfPairs 20 = .ok (.iload_n 2, 1) := by decide +kernel
theorem dX3_coldestOfPairs_21 : decode cX3_coldestOfPairs 21 = .ok (.invokevirtual 121, 3) := by decide +kernel
theorem dX3_coldestOfPairs_24 : decode cX3_coldestOfPairs 24 = .ok (.aload_n 0, 1) := by decide +kernel
theorem dX3_coldestOfPairs_25 : decode cX3_coldestOfPairs 25 = .ok (.iload_n 1, 1) := by decide +kernel
theorem dX3_coldestOfPairs_26 : decode cX3_coldestOfPairs 26 = .ok (.invokevirtual 121, 3) := by decide +kernel
theorem dX3_coldestOfPairs_29 : decode cX3_coldestOfPairs 29 = .ok (.if_icmp .ge 7, 3) := by decide +kernel
theorem dX3_coldestOfPairs_32 : decode cX3_coldestOfPairs 32 = .ok (.iload_n 2, 1) := by decide +kernel
theorem dX3_coldestOfPairs_33 : decode cX3_coldestOfPairs 33 = .ok (.goto 4, 3) := by decide +kernel
theorem dX3_coldestOfPairs_36 : decode cX3_coldestOfPairs 36 = .ok (.iload_n 1, 1) := by decide +kernel
theorem dX3_coldestOfPairs_37 : decode cX3_coldestOfPairs 37 = .ok (.istore_n 1, 1) := by decide +kernel
theorem dX3_coldestOfPairs_38 : decode cX3_coldestOfPairs 38 = .ok (.iinc 2 1, 3) := by decide +kernel
theorem dX3_coldestOfPairs_41 : decode cX3_coldestOfPairs 41 = .ok (.goto (-37), 3) := by decide +kernel
theorem dX3_coldestOfPairs_44 : decode cX3_coldestOfPairs 44 = .ok (.iload_n 1, 1) := by decide +kernel
theorem dX3_coldestOfPairs_45 : decode cX3_coldestOfPairs 45 = .ok (.ireturn, 1) := by decide +kernel
set_option maxRecDepth 20000 in
theorem ggX3_pairHeat_X3_heatOf : GoodIn wsX3_pairHeat wsX3_heatOf := goodIn_r _ [5, 6, 7, 8, 9, 4, 10, 11, 12, 13, 14, 15, 16, 17, 18, 19] (by decide +kernel) (by decide +kernel)
set_option maxRecDepth 20000 in
theorem gX3_pairHeat_X3_heatOf : GoodIn wsX3_pairHeat (wsV RX3 118 RX3 yX3_heatOf wsX3_heatOf) := goodIn_app (goodIn_of _ (by decide +kernel)) ggX3_pairHeat_X3_heatOf
theorem dX3_pairHeat_0 : decode cX3_pairHeat 0 = .ok (.aload_n 0, 1) := by decide +kernel
theorem dX3_pairHeat_1 : decode cX3_pairHeat 1 = .ok (.iload_n 1, 1) := by decide +kernel
theorem dX3_pairHeat_2 : decode cX3_pairHeat 2 = .ok (.invokevirtual 118, 3) := by decide +kernel
theorem dX3_pairHeat_5 : decode cX3_pairHeat 5 = .ok (.aload_n 0, 1) := by decide +kernel
theorem dX3_pairHeat_6 : decode cX3_pairHeat 6 = .ok (.iload_n 1, 1) := by decide +kernel
theorem dX3_pairHeat_7 : decode cX3_pairHeat 7 = .ok (.iconst 1, 1) := by decide +kernel
theorem dX3_pairHeat_8 : decode cX3_pairHeat 8 = .ok (.iadd, 1) := by decide +kernel
theorem dX3_pairHeat_9 : decode cX3_pairHeat 9 = .ok (.invokevirtual 118, 3) := by decide +kernel
theorem dX3_pairHeat_12 : decode cX3_pairHeat 12 = .ok (.iadd, 1) := by decide +kernel
theorem dX3_pairHeat_13 : decode cX3_pairHeat 13 = .ok (.ireturn, 1) := by decide +kernel
set_option maxRecDepth 20000 in
theorem ggX3_largestUnsorted_X3_isSorted : GoodIn wsX3_largestUnsorted wsX3_isSorted := goodIn_r _ [6, 7, 8, 9, 10, 5, 11, 1, 22, 23, 24, 25, 26, 27, 28, 29] (by decide +kernel) (by decide +kernel)
set_option maxRecDepth 20000 in
theorem gX3_largestUnsorted_X3_isSorted : GoodIn wsX3_largestUnsorted (wsV RX3 50 RX3 yX3_isSorted wsX3_isSorted) := goodIn_app (goodIn_of _ (by decide +kernel)) ggX3_largestUnsorted_X3_isSorted
set_option maxRecDepth 20000 in
theorem ggX3_largestUnsorted_X3_sizeOf : GoodIn wsX3_largestUnsorted wsX3_sizeOf := goodIn_r _ [15, 16, 17, 18, 5, 19, 20, 21, 8, 9, 10, 11, 1, 22, 23, 24, 25, 26, 27, 28, 29] (by decide +kernel) (by decide +kernel)
set_option maxRecDepth 20000 in
theorem gX3_largestUnsorted_X3_sizeOf : GoodIn wsX3_largestUnsorted (wsV RX3 96 RX3 yX3_sizeOf wsX3_sizeOf) := goodIn_app (goodIn_of _ (by decide +kernel)) ggX3_largestUnsorted_X3_sizeOf
theorem dX3_largestUnsorted_0 : decode cX3_largestUnsorted 0 = .ok (.iconst (-1), 1) := by decide +kernel
theorem dX3_largestUnsorted_1 : decode cX3_largestUnsorted 1 = .ok (.istore_n 1, 1) := by decide +kernel
theorem dX3_largestUnsorted_2 : decode cX3_largestUnsorted 2 = .ok (.iconst 0, 1) := by decide +kernel
theorem dX3_largestUnsorted_3 : decode cX3_largestUnsorted 3 = .ok (.istore_n 2, 1) := by decide +kernel
theorem dX3_largestUnsorted_4 : decode cX3_largestUnsorted 4 = .ok (.iload_n 2, 1) := by decide +kernel
theorem dX3_largestUnsorted_5 : decode cX3_largestUnsorted 5 = .ok (.aload_n 0, 1) := by decide +kernel
theorem dX3_largestUnsorted_6 : decode cX3_largestUnsorted 6 = .ok (.getfield 31, 3) := by decide +kernel
theorem dX3_largestUnsorted_9 : decode cX3_largestUnsorted 9 = .ok (.if_icmp .ge 37, 3) := by decide +kernel
theorem dX3_largestUnsorted_12 : decode cX3_largestUnsorted 12 = .ok (.aload_n 0, 1) := by decide +kernel
theorem dX3_largestUnsorted_13 : decode cX3_largestUnsorted 13 = .ok (.iload_n 2, 1) := by decide +kernel
theorem dX3_largestUnsorted_14 : decode cX3_largestUnsorted 14 = .ok (.invokevirtual 50, 3) := by decide +kernel
theorem dX3_largestUnsorted_17 : decode cX3_largestUnsorted 17 = .ok (.ifCond .ne 23, 3) := by decide +kernel
theorem dX3_largestUnsorted_20 : decode cX3_largestUnsorted 20 = .ok (.iload_n 1, 1) := by decide +kernel
theorem dX3_largestUnsorted_21 : decode cX3_largestUnsorted 21 = .ok (.iconst (-1), 1) := by decide +kernel
theorem dX3_largestUnsorted_22 : decode cX3_largestUnsorted 22 = .ok (.if_icmp .eq 16, 3) := by decide +kernel
theorem dX3_largestUnsorted_25 : decode cX3_largestUnsorted 25 = .ok (.aload_n 0, 1) := by decide +kernel
theorem dX3_largestUnsorted_26 : decode cX3_largestUnsorted 26 = .ok (.iload_n 2, 1) := by decide +kernel
theorem dX3_largestUnsorted_27 : decode cX3_largestUnsorted 27 = .ok (.invokevirtual 96, 3) := by decide +kernel
theorem dX3_largestUnsorted_30 : decode cX3_largestUnsorted 30 = .ok (.aload_n 0, 1) := by decide +kernel
theorem dX3_largestUnsorted_31 : decode cX3_largestUnsorted 31 = .ok (.iload_n 1, 1) := by decide +kernel
theorem dX3_largestUnsorted_32 : decode cX3_largestUnsorted 32 = .ok (.invokevirtual 96, 3) := by decide +kernel
theorem dX3_largestUnsorted_35 : decode cX3_largestUnsorted 35 = .ok (.if_icmp .le 5, 3) := by decide +kernel
theorem dX3_largestUnsorted_38 : decode cX3_largestUnsorted 38 = .ok (.iload_n 2, 1) := by decide +kernel
theorem dX3_largestUnsorted_39 : decode cX3_largestUnsorted 39 = .ok (.istore_n 1, 1) := by decide +kernel
theorem dX3_largestUnsorted_40 : decode cX3_largestUnsorted 40 = .ok (.iinc 2 1, 3) := by decide +kernel
theorem dX3_largestUnsorted_43 : decode cX3_largestUnsorted 43 = .ok (.goto (-39), 3) := by decide +kernel
theorem dX3_largestUnsorted_46 : decode cX3_largestUnsorted 46 = .ok (.iload_n 1, 1) := by decide +kernel
theorem dX3_largestUnsorted_47 : decode cX3_largestUnsorted 47 = .ok (.ireturn, 1) := by decide +kernel
set_option maxRecDepth 20000 in
theorem ggX3_evenKeyOf_X3_startOf : GoodIn wsX3_evenKeyOf wsX3_startOf := goodIn_r _ [5, 6, 7, 8, 9, 10, 4, 11, 12, 46, 47, 48, 49, 50, 51, 52, 53] (by decide +kernel) (by decide +kernel)
set_option maxRecDepth 20000 in
theorem gX3_evenKeyOf_X3_startOf : GoodIn wsX3_evenKeyOf (wsV RX3 46 RX3 yX3_startOf wsX3_startOf) := goodIn_app (goodIn_of _ (by decide +kernel)) ggX3_evenKeyOf_X3_startOf
set_option maxRecDepth 20000 in
theorem ggX3_evenKeyOf_X3_keyAt : GoodIn wsX3_evenKeyOf wsX3_keyAt := goodIn_r _ [16, 17, 18, 19, 20, 4, 21, 7, 22, 23, 24, 25, 26, 27, 28, 46, 47, 48, 49, 50, 51, 52, 53, 54, 55, 56, 57] (by decide +kernel) (by decide +kernel)
set_option maxRecDepth 20000 in
theorem gX3_evenKeyOf_X3_keyAt : GoodIn wsX3_evenKeyOf (wsV RX3 61 RX3 yX3_keyAt wsX3_keyAt) := goodIn_app (goodIn_of _ (by decide +kernel)) ggX3_evenKeyOf_X3_keyAt
set_option maxRecDepth 20000 in
theorem ggX3_evenKeyOf_X3_boundOf : GoodIn wsX3_evenKeyOf wsX3_boundOf := goodIn_r _ [32, 33, 8, 9, 10, 4, 11, 12, 46, 47, 48, 49, 50, 51, 52, 53] (by decide +kernel) (by decide +kernel)
set_option maxRecDepth 20000 in
theorem gX3_evenKeyOf_X3_boundOf : GoodIn wsX3_evenKeyOf (wsV RX3 93 RX3 yX3_boundOf wsX3_boundOf) := goodIn_app (goodIn_of _ (by decide +kernel)) ggX3_evenKeyOf_X3_boundOf
set_option maxRecDepth 20000 in
theorem ggX3_evenKeyOf_X3_gapAt : GoodIn wsX3_evenKeyOf wsX3_gapAt := goodIn_r _ [37, 38, 39, 40, 41, 1, 2, 3, 4, 5, 6, 7, 8, 9, 10, 11, 12, 13, 14, 15, 16, 17, 18, 19, 20, 21, 22, 23, 24, 25, 26, 27, 28, 42, 43, 44, 45, 46, 47, 48, 49, 50, 51, 52, 53, 54, 55, 56, 57] (by decide +kernel) (by decide +kernel)
set_option maxRecDepth 20000 in
theorem gX3_evenKeyOf_X3_gapAt : GoodIn wsX3_evenKeyOf (wsV RX3 124 RX3 yX3_gapAt wsX3_gapAt) := goodIn_app (goodIn_of _ (by decide +kernel)) ggX3_evenKeyOf_X3_gapAt
theorem dX3_evenKeyOf_0 : decode cX3_evenKeyOf 0 = .ok (.iconst (-1), 1) := by decide +kernel
theorem dX3_evenKeyOf_1 : decode cX3_evenKeyOf 1 = .ok (.istore_n 2, 1) := by decide +kernel
theorem dX3_evenKeyOf_2 : decode cX3_evenKeyOf 2 = .ok (.iconst 0, 1) := by decide +kernel
theorem dX3_evenKeyOf_3 : decode cX3_evenKeyOf 3 = .ok (.istore_n 3, 1) := by decide +kernel
theorem dX3_evenKeyOf_4 : decode cX3_evenKeyOf 4 = .ok (.aload_n 0, 1) := by decide +kernel
theorem dX3_evenKeyOf_5 : decode cX3_evenKeyOf 5 = .ok (.iload_n 1, 1) := by decide +kernel
theorem dX3_evenKeyOf_6 : decode cX3_evenKeyOf 6 = .ok (.iconst 1, 1) := by decide +kernel
theorem dX3_evenKeyOf_7 : decode cX3_evenKeyOf 7 = .ok (.iadd, 1) := by decide +kernel
theorem dX3_evenKeyOf_8 : decode cX3_evenKeyOf 8 = .ok (.invokevirtual 46, 3) := by decide +kernel
theorem dX3_evenKeyOf_11 : decode cX3_evenKeyOf 11 = .ok (.istore 4, 2) := by decide +kernel
theorem dX3_evenKeyOf_13 : decode cX3_evenKeyOf 13 = .ok (.aload_n 0, 1) := by decide +kernel
theorem dX3_evenKeyOf_14 : decode cX3_evenKeyOf 14 = .ok (.iload_n 1, 1) := by decide +kernel
theorem dX3_evenKeyOf_15 : decode cX3_evenKeyOf 15 = .ok (.invokevirtual 46, 3) := by decide +kernel
theorem dX3_evenKeyOf_18 : decode cX3_evenKeyOf 18 = .ok (.istore 5, 2) := by decide +kernel
theorem dX3_evenKeyOf_20 : decode cX3_evenKeyOf 20 = .ok (.iload 5, 2) := by decide +kernel
theorem dX3_evenKeyOf_22 : decode cX3_evenKeyOf 22 = .ok (.iload 4, 2) := by decide +kernel
theorem dX3_evenKeyOf_24 : decode cX3_evenKeyOf 24 = .ok (.if_icmp .ge 65, 3) := by decide +kernel
theorem dX3_evenKeyOf_27 : decode cX3_evenKeyOf 27 = .ok (.aload_n 0, 1) := by decide +kernel
theorem dX3_evenKeyOf_28 : decode cX3_evenKeyOf 28 = .ok (.iload 5, 2) := by decide +kernel
theorem dX3_evenKeyOf_30 : decode cX3_evenKeyOf 30 = .ok (.invokevirtual 61, 3) := by decide +kernel
theorem dX3_evenKeyOf_33 : decode cX3_evenKeyOf 33 = .ok (.istore 6, 2) := by decide +kernel
theorem dX3_evenKeyOf_35 : decode cX3_evenKeyOf 35 = .ok (.iload 6, 2) := by decide +kernel
theorem dX3_evenKeyOf_37 : decode cX3_evenKeyOf 37 = .ok (.aload_n 0, 1) := by decide +kernel
theorem dX3_evenKeyOf_38 : decode cX3_evenKeyOf 38 = .ok (.iload_n 1, 1) := by decide +kernel
theorem dX3_evenKeyOf_39 : decode cX3_evenKeyOf 39 = .ok (.invokevirtual 93, 3) := by decide +kernel
theorem dX3_evenKeyOf_42 : decode cX3_evenKeyOf 42 = .ok (.if_icmp .le 41, 3) := by decide +kernel
theorem dX3_evenKeyOf_45 : decode cX3_evenKeyOf 45 = .ok (.aload_n 0, 1) := by decide +kernel
theorem dX3_evenKeyOf_46 : decode cX3_evenKeyOf 46 = .ok (.iload_n 1, 1) := by decide +kernel
theorem dX3_evenKeyOf_47 : decode cX3_evenKeyOf 47 = .ok (.iload 6, 2) := by decide +kernel
theorem dX3_evenKeyOf_49 : decode cX3_evenKeyOf 49 = .ok (.invokevirtual 124, 3) := by decide +kernel
theorem dX3_evenKeyOf_52 : decode cX3_evenKeyOf 52 = .ok (.istore 7, 2) := by decide +kernel
theorem dX3_evenKeyOf_54 : decode cX3_evenKeyOf 54 = .ok (.iload_n 2, 1) := by decide +kernel
theorem dX3_evenKeyOf_55 : decode cX3_evenKeyOf 55 = .ok (.iconst (-1), 1) := by decide +kernel
theorem dX3_evenKeyOf_56 : decode cX3_evenKeyOf 56 = .ok (.if_icmp .eq 21, 3) := by decide +kernel
theorem dX3_evenKeyOf_59 : decode cX3_evenKeyOf 59 = .ok (.iload 7, 2) := by decide +kernel
theorem dX3_evenKeyOf_61 : decode cX3_evenKeyOf 61 = .ok (.iload_n 3, 1) := by decide +kernel
theorem dX3_evenKeyOf_62 : decode cX3_evenKeyOf 62 = .ok (.if_icmp .lt 15, 3) := by decide +kernel
theorem dX3_evenKeyOf_65 : decode cX3_evenKeyOf 65 = .ok (.iload 7, 2) := by decide +kernel
theorem dX3_evenKeyOf_67 : decode cX3_evenKeyOf 67 = .ok (.iload_n 3, 1) := by decide +kernel
theorem dX3_evenKeyOf_68 : decode cX3_evenKeyOf 68 = .ok (.if_icmp .ne 15, 3) := by decide +kernel
theorem dX3_evenKeyOf_71 : decode cX3_evenKeyOf 71 = .ok (.iload 6, 2) := by decide +kernel
theorem dX3_evenKeyOf_73 : decode cX3_evenKeyOf 73 = .ok (.iload_n 2, 1) := by decide +kernel
theorem dX3_evenKeyOf_74 : decode cX3_evenKeyOf 74 = .ok (.if_icmp .ge 9, 3) := by decide +kernel
theorem dX3_evenKeyOf_77 : decode cX3_evenKeyOf 77 = .ok (.iload 6, 2) := by decide +kernel
theorem dX3_evenKeyOf_79 : decode cX3_evenKeyOf 79 = .ok (.istore_n 2, 1) := by decide +kernel
theorem dX3_evenKeyOf_80 : decode cX3_evenKeyOf 80 = .ok (.iload 7, 2) := by decide +kernel
theorem dX3_evenKeyOf_82 : decode cX3_evenKeyOf 82 = .ok (.istore_n 3, 1) := by decide +kernel
theorem dX3_evenKeyOf_83 : decode cX3_evenKeyOf 83 = .ok (.iinc 5 1, 3) := by decide +kernel
theorem dX3_evenKeyOf_86 : decode cX3_evenKeyOf 86 = .ok (.goto (-66), 3) := by decide +kernel
theorem dX3_evenKeyOf_89 : decode cX3_evenKeyOf 89 = .ok (.iload_n 2, 1) := by decide +kernel
theorem dX3_evenKeyOf_90 : decode cX3_evenKeyOf 90 = .ok (.ireturn, 1) := by decide +kernel
set_option maxRecDepth 20000 in
theorem ggX3_gapAt_X3_startOf : GoodIn wsX3_gapAt wsX3_startOf := goodIn_r _ [9, 10, 11, 12, 13, 14, 8, 15, 16, 37, 38, 39, 40, 41, 42, 43, 44] (by decide +kernel) (by decide +kernel)
set_option maxRecDepth 20000 in
theorem gX3_gapAt_X3_startOf : GoodIn wsX3_gapAt (wsV RX3 46 RX3 yX3_startOf wsX3_startOf) := goodIn_app (goodIn_of _ (by decide +kernel)) ggX3_gapAt_X3_startOf
set_option maxRecDepth 20000 in
theorem ggX3_gapAt_X3_keyAt : GoodIn wsX3_gapAt wsX3_keyAt := goodIn_r _ [20, 21, 22, 23, 24, 8, 25, 11, 26, 27, 28, 29, 30, 31, 32, 37, 38, 39, 40, 41, 42, 43, 44, 45, 46, 47, 48] (by decide +kernel) (by decide +kernel)
set_option maxRecDepth 20000 in
theorem gX3_gapAt_X3_keyAt : GoodIn wsX3_gapAt (wsV RX3 61 RX3 yX3_keyAt wsX3_keyAt) := goodIn_app (goodIn_of _ (by decide +kernel)) ggX3_gapAt_X3_keyAt
set_option maxRecDepth 20000 in
theorem ggX3_gapAt_X3_sizeOf : GoodIn wsX3_gapAt wsX3_sizeOf := goodIn_r _ [36, 5, 6, 7, 8, 9, 10, 11, 12, 13, 14, 15, 16, 37, 38, 39, 40, 41, 42, 43, 44] (by decide +kernel) (by decide +kernel)
set_option maxRecDepth 20000 in
theorem gX3_gapAt_X3_sizeOf : GoodIn wsX3_gapAt (wsV RX3 96 RX3 yX3_sizeOf wsX3_sizeOf) := goodIn_app (goodIn_of _ (by decide +kernel)) ggX3_gapAt_X3_sizeOf
theorem dX3_gapAt_0 : decode cX3_gapAt 0 = .ok (.iconst 0, 1) := by decide +kernel
theorem dX3_gapAt_1 : decode cX3_gapAt 1 = .ok (.istore_n 3, 1) := by decide +kernel
theorem dX3_gapAt_2 : decode cX3_gapAt 2 = .ok (.aload_n 0, 1) := by decide +kernel
theorem dX3_gapAt_3 : decode cX3_gapAt 3 = .ok (.iload_n 1, 1) := by decide +kernel
theorem dX3_gapAt_4 : decode cX3_gapAt 4 = .ok (.iconst 1, 1) := by decide +kernel
theorem dX3_gapAt_5 : decode cX3_gapAt 5 = .ok (.iadd, 1) := by decide +kernel
theorem dX3_gapAt_6 : decode cX3_gapAt 6 = .ok (.invokevirtual 46, 3) := by decide +kernel
theorem dX3_gapAt_9 : decode cX3_gapAt 9 = .ok (.istore 4, 2) := by decide +kernel
theorem dX3_gapAt_11 : decode cX3_gapAt 11 = .ok (.aload_n 0, 1) := by decide +kernel
theorem dX3_gapAt_12 : decode cX3_gapAt 12 = .ok (.iload_n 1, 1) := by decide +kernel
theorem dX3_gapAt_13 : decode cX3_gapAt 13 = .ok (.invokevirtual 46, 3) := by decide +kernel
theorem dX3_gapAt_16 : decode cX3_gapAt 16 = .ok (.istore 5, 2) := by decide +kernel
theorem dX3_gapAt_18 : decode cX3_gapAt 18 = .ok (.iload 5, 2) := by decide +kernel
theorem dX3_gapAt_20 : decode cX3_gapAt 20 = .ok (.iload 4, 2) := by decide +kernel
theorem dX3_gapAt_22 : decode cX3_gapAt 22 = .ok (.if_icmp .ge 27, 3) := by decide +kernel
theorem dX3_gapAt_25 : decode cX3_gapAt 25 = .ok (.iload_n 3, 1) := by decide +kernel
theorem dX3_gapAt_26 : decode cX3_gapAt 26 = .ok (.aload_n 0, 1) := by decide +kernel
theorem dX3_gapAt_27 : decode cX3_gapAt 27 = .ok (.iload 5, 2) := by decide +kernel
theorem dX3_gapAt_29 : decode cX3_gapAt 29 = .ok (.invokevirtual 61, 3) := by decide +kernel
theorem dX3_gapAt_32 : decode cX3_gapAt 32 = .ok (.iload_n 2, 1) := by decide +kernel
theorem dX3_gapAt_33 : decode cX3_gapAt 33 = .ok (.if_icmp .ge 7, 3) := by decide +kernel
theorem dX3_gapAt_36 : decode cX3_gapAt 36 = .ok (.iconst 1, 1) := by decide +kernel
theorem dX3_gapAt_37 : decode cX3_gapAt 37 = .ok (.goto 4, 3) := by decide +kernel
theorem dX3_gapAt_40 : decode cX3_gapAt 40 = .ok (.iconst 0, 1) := by decide +kernel
theorem dX3_gapAt_41 : decode cX3_gapAt 41 = .ok (.iadd, 1) := by decide +kernel
theorem dX3_gapAt_42 : decode cX3_gapAt 42 = .ok (.istore_n 3, 1) := by decide +kernel
theorem dX3_gapAt_43 : decode cX3_gapAt 43 = .ok (.iinc 5 1, 3) := by decide +kernel
theorem dX3_gapAt_46 : decode cX3_gapAt 46 = .ok (.goto (-28), 3) := by decide +kernel
theorem dX3_gapAt_49 : decode cX3_gapAt 49 = .ok (.aload_n 0, 1) := by decide +kernel
theorem dX3_gapAt_50 : decode cX3_gapAt 50 = .ok (.iload_n 1, 1) := by decide +kernel
theorem dX3_gapAt_51 : decode cX3_gapAt 51 = .ok (.invokevirtual 96, 3) := by decide +kernel
theorem dX3_gapAt_54 : decode cX3_gapAt 54 = .ok (.iconst 2, 1) := by decide +kernel
theorem dX3_gapAt_55 : decode cX3_gapAt 55 = .ok (.iload_n 3, 1) := by decide +kernel
theorem dX3_gapAt_56 : decode cX3_gapAt 56 = .ok (.imul, 1) := by decide +kernel
theorem dX3_gapAt_57 : decode cX3_gapAt 57 = .ok (.isub, 1) := by decide +kernel
theorem dX3_gapAt_58 : decode cX3_gapAt 58 = .ok (.invokestatic 127, 3) := by decide +kernel
theorem dX3_gapAt_61 : decode cX3_gapAt 61 = .ok (.ireturn, 1) := by decide +kernel
theorem dX4_init_0 : decode cX4_init 0 = .ok (.aload_n 0, 1) := by decide +kernel
theorem dX4_init_1 : decode cX4_init 1 = .ok (.invokespecial 3, 3) := by decide +kernel
theorem dX4_init_4 : decode cX4_init 4 = .ok (.aload_n 0, 1) := by decide +kernel
theorem dX4_init_5 : decode cX4_init 5 = .ok (.bipush 80, 2) := by decide +kernel
theorem dX4_init_7 : decode cX4_init 7 = .ok (.newarray .int, 2) := by decide +kernel
theorem dX4_init_9 : decode cX4_init 9 = .ok (.putfield 9, 3) := by decide +kernel
theorem dX4_init_12 : decode cX4_init 12 = .ok (.aload_n 0, 1) := by decide +kernel
theorem dX4_init_13 : decode cX4_init 13 = .ok (.iconst 0, 1) := by decide +kernel
