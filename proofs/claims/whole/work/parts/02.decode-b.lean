theorem dX0_init_0 : decode cX0_init 0 = .ok (.aload_n 0, 1) := by decide +kernel
theorem dX0_init_1 : decode cX0_init 1 = .ok (.invokespecial 3, 3) := by decide +kernel
theorem dX0_init_4 : decode cX0_init 4 = .ok (.aload_n 0, 1) := by decide +kernel
theorem dX0_init_5 : decode cX0_init 5 = .ok (.bipush 72, 2) := by decide +kernel
theorem dX0_init_7 : decode cX0_init 7 = .ok (.newarray .int, 2) := by decide +kernel
theorem dX0_init_9 : decode cX0_init 9 = .ok (.putfield 9, 3) := by decide +kernel
theorem dX0_init_12 : decode cX0_init 12 = .ok (.aload_n 0, 1) := by decide +kernel
theorem dX0_init_13 : decode cX0_init 13 = .ok (.bipush 6, 2) := by decide +kernel
theorem dX0_init_15 : decode cX0_init 15 = .ok (.newarray .int, 2) := by decide +kernel
theorem dX0_init_17 : decode cX0_init 17 = .ok (.putfield 15, 3) := by decide +kernel
theorem dX0_init_20 : decode cX0_init 20 = .ok (.aload_n 0, 1) := by decide +kernel
theorem dX0_init_21 : decode cX0_init 21 = .ok (.bipush 6, 2) := by decide +kernel
theorem dX0_init_23 : decode cX0_init 23 = .ok (.newarray .int, 2) := by decide +kernel
theorem dX0_init_25 : decode cX0_init 25 = .ok (.putfield 18, 3) := by decide +kernel
theorem dX0_init_28 : decode cX0_init 28 = .ok (.aload_n 0, 1) := by decide +kernel
theorem dX0_init_29 : decode cX0_init 29 = .ok (.iconst 0, 1) := by decide +kernel
theorem dX0_init_30 : decode cX0_init 30 = .ok (.putfield 21, 3) := by decide +kernel
theorem dX0_init_33 : decode cX0_init 33 = .ok (.aload_n 0, 1) := by decide +kernel
theorem dX0_init_34 : decode cX0_init 34 = .ok (.iconst 0, 1) := by decide +kernel
theorem dX0_init_35 : decode cX0_init 35 = .ok (.putfield 25, 3) := by decide +kernel
theorem dX0_init_38 : decode cX0_init 38 = .ok (.aload_n 0, 1) := by decide +kernel
theorem dX0_init_39 : decode cX0_init 39 = .ok (.iconst 1, 1) := by decide +kernel
theorem dX0_init_40 : decode cX0_init 40 = .ok (.putfield 28, 3) := by decide +kernel
theorem dX0_init_43 : decode cX0_init 43 = .ok (.return_, 1) := by decide +kernel
theorem dX0_copyGoods_0 : decode cX0_copyGoods 0 = .ok (.aload_n 1, 1) := by decide +kernel
theorem dX0_copyGoods_1 : decode cX0_copyGoods 1 = .ok (.getfield 9, 3) := by decide +kernel
theorem dX0_copyGoods_4 : decode cX0_copyGoods 4 = .ok (.iconst 0, 1) := by decide +kernel
theorem dX0_copyGoods_5 : decode cX0_copyGoods 5 = .ok (.aload_n 0, 1) := by decide +kernel
theorem dX0_copyGoods_6 : decode cX0_copyGoods 6 = .ok (.getfield 9, 3) := by decide +kernel
theorem dX0_copyGoods_9 : decode cX0_copyGoods 9 = .ok (.iconst 0, 1) := by decide +kernel
theorem dX0_copyGoods_10 : decode cX0_copyGoods 10 = .ok (.bipush 72, 2) := by decide +kernel
theorem dX0_copyGoods_12 : decode cX0_copyGoods 12 = .ok (.invokestatic 31, 3) := by decide +kernel
theorem dX0_copyGoods_15 : decode cX0_copyGoods 15 = .ok (.aload_n 1, 1) := by decide +kernel
theorem dX0_copyGoods_16 : decode cX0_copyGoods 16 = .ok (.getfield 15, 3) := by decide +kernel
theorem dX0_copyGoods_19 : decode cX0_copyGoods 19 = .ok (.iconst 0, 1) := by decide +kernel
theorem dX0_copyGoods_20 : decode cX0_copyGoods 20 = .ok (.aload_n 0, 1) := by decide +kernel
theorem dX0_copyGoods_21 : decode cX0_copyGoods 21 = .ok (.getfield 15, 3) := by decide +kernel
theorem dX0_copyGoods_24 : decode cX0_copyGoods 24 = .ok (.iconst 0, 1) := by decide +kernel
theorem dX0_copyGoods_25 : decode cX0_copyGoods 25 = .ok (.bipush 6, 2) := by decide +kernel
theorem dX0_copyGoods_27 : decode cX0_copyGoods 27 = .ok (.invokestatic 31, 3) := by decide +kernel
theorem dX0_copyGoods_30 : decode cX0_copyGoods 30 = .ok (.aload_n 1, 1) := by decide +kernel
theorem dX0_copyGoods_31 : decode cX0_copyGoods 31 = .ok (.getfield 18, 3) := by decide +kernel
theorem dX0_copyGoods_34 : decode cX0_copyGoods 34 = .ok (.iconst 0, 1) := by decide +kernel
theorem dX0_copyGoods_35 : decode cX0_copyGoods 35 = .ok (.aload_n 0, 1) := by decide +kernel
theorem dX0_copyGoods_36 : decode cX0_copyGoods 36 = .ok (.getfield 18, 3) := by decide +kernel
theorem dX0_copyGoods_39 : decode cX0_copyGoods 39 = .ok (.iconst 0, 1) := by decide +kernel
theorem dX0_copyGoods_40 : decode cX0_copyGoods 40 = .ok (.bipush 6, 2) := by decide +kernel
theorem dX0_copyGoods_42 : decode cX0_copyGoods 42 = .ok (.invokestatic 31, 3) := by decide +kernel
theorem dX0_copyGoods_45 : decode cX0_copyGoods 45 = .ok (.aload_n 0, 1) := by decide +kernel
theorem dX0_copyGoods_46 : decode cX0_copyGoods 46 = .ok (.aload_n 1, 1) := by decide +kernel
theorem dX0_copyGoods_47 : decode cX0_copyGoods 47 = .ok (.getfield 21, 3) := by decide +kernel
theorem dX0_copyGoods_50 : decode cX0_copyGoods 50 = .ok (.putfield 21, 3) := by decide +kernel
theorem dX0_copyGoods_53 : decode cX0_copyGoods 53 = .ok (.aload_n 0, 1) := by decide +kernel
theorem dX0_copyGoods_54 : decode cX0_copyGoods 54 = .ok (.aload_n 1, 1) := by decide +kernel
theorem dX0_copyGoods_55 : decode cX0_copyGoods 55 = .ok (.getfield 25, 3) := by decide +kernel
theorem dX0_copyGoods_58 : decode cX0_copyGoods 58 = .ok (.putfield 25, 3) := by decide +kernel
theorem dX0_copyGoods_61 : decode cX0_copyGoods 61 = .ok (.aload_n 0, 1) := by decide +kernel
theorem dX0_copyGoods_62 : decode cX0_copyGoods 62 = .ok (.aload_n 1, 1) := by decide +kernel
theorem dX0_copyGoods_63 : decode cX0_copyGoods 63 = .ok (.getfield 28, 3) := by decide +kernel
theorem dX0_copyGoods_66 : decode cX0_copyGoods 66 = .ok (.putfield 28, 3) := by decide +kernel
theorem dX0_copyGoods_69 : decode cX0_copyGoods 69 = .ok (.return_, 1) := by decide +kernel
theorem dX0_manyOf_0 : decode cX0_manyOf 0 = .ok (.aload_n 0, 1) := by decide +kernel
theorem dX0_manyOf_1 : decode cX0_manyOf 1 = .ok (.getfield 9, 3) := by decide +kernel
theorem dX0_manyOf_4 : decode cX0_manyOf 4 = .ok (.iload_n 1, 1) := by decide +kernel
theorem dX0_manyOf_5 : decode cX0_manyOf 5 = .ok (.bipush 12, 2) := by decide +kernel
theorem dX0_manyOf_7 : decode cX0_manyOf 7 = .ok (.imul, 1) := by decide +kernel
theorem dX0_manyOf_8 : decode cX0_manyOf 8 = .ok (.iload_n 2, 1) := by decide +kernel
theorem dX0_manyOf_9 : decode cX0_manyOf 9 = .ok (.iadd, 1) := by decide +kernel
theorem dX0_manyOf_10 : decode cX0_manyOf 10 = .ok (.iaload, 1) := by decide +kernel
theorem dX0_manyOf_11 : decode cX0_manyOf 11 = .ok (.ireturn, 1) := by decide +kernel
theorem dX0_manyInAll_0 : decode cX0_manyInAll 0 = .ok (.iconst 0, 1) := by decide +kernel
theorem dX0_manyInAll_1 : decode cX0_manyInAll 1 = .ok (.istore_n 2, 1) := by decide +kernel
theorem dX0_manyInAll_2 : decode cX0_manyInAll 2 = .ok (.iconst 0, 1) := by decide +kernel
theorem dX0_manyInAll_3 : decode cX0_manyInAll 3 = .ok (.istore_n 3, 1) := by decide +kernel
theorem dX0_manyInAll_4 : decode cX0_manyInAll 4 = .ok (.iload_n 3, 1) := by decide +kernel
theorem dX0_manyInAll_5 : decode cX0_manyInAll 5 = .ok (.bipush 12, 2) := by decide +kernel
theorem dX0_manyInAll_7 : decode cX0_manyInAll 7 = .ok (.if_icmp .ge 18, 3) := by decide +kernel
theorem dX0_manyInAll_10 : decode cX0_manyInAll 10 = .ok (.iload_n 2, 1) := by decide +kernel
theorem dX0_manyInAll_11 : decode cX0_manyInAll 11 = .ok (.aload_n 0, 1) := by decide +kernel
theorem dX0_manyInAll_12 : decode cX0_manyInAll 12 = .ok (.iload_n 1, 1) := by decide +kernel
theorem dX0_manyInAll_13 : decode cX0_manyInAll 13 = .ok (.iload_n 3, 1) := by decide +kernel
theorem dX0_manyInAll_14 : decode cX0_manyInAll 14 = .ok (.invokevirtual 37, 3) := by decide +kernel
theorem dX0_manyInAll_17 : decode cX0_manyInAll 17 = .ok (.iadd, 1) := by decide +kernel
theorem dX0_manyInAll_18 : decode cX0_manyInAll 18 = .ok (.istore_n 2, 1) := by decide +kernel
theorem dX0_manyInAll_19 : decode cX0_manyInAll 19 = .ok (.iinc 3 1, 3) := by decide +kernel
theorem dX0_manyInAll_22 : decode cX0_manyInAll 22 = .ok (.goto (-18), 3) := by decide +kernel
theorem dX0_manyInAll_25 : decode cX0_manyInAll 25 = .ok (.iload_n 2, 1) := by decide +kernel
theorem dX0_manyInAll_26 : decode cX0_manyInAll 26 = .ok (.ireturn, 1) := by decide +kernel
theorem dX0_setMany_0 : decode cX0_setMany 0 = .ok (.aload_n 0, 1) := by decide +kernel
theorem dX0_setMany_1 : decode cX0_setMany 1 = .ok (.getfield 9, 3) := by decide +kernel
theorem dX0_setMany_4 : decode cX0_setMany 4 = .ok (.iload_n 1, 1) := by decide +kernel
theorem dX0_setMany_5 : decode cX0_setMany 5 = .ok (.bipush 12, 2) := by decide +kernel
theorem dX0_setMany_7 : decode cX0_setMany 7 = .ok (.imul, 1) := by decide +kernel
theorem dX0_setMany_8 : decode cX0_setMany 8 = .ok (.iload_n 2, 1) := by decide +kernel
theorem dX0_setMany_9 : decode cX0_setMany 9 = .ok (.iadd, 1) := by decide +kernel
theorem dX0_setMany_10 : decode cX0_setMany 10 = .ok (.iload_n 3, 1) := by decide +kernel
theorem dX0_setMany_11 : decode cX0_setMany 11 = .ok (.iastore, 1) := by decide +kernel
theorem dX0_setMany_12 : decode cX0_setMany 12 = .ok (.iconst 1, 1) := by decide +kernel
theorem dX0_setMany_13 : decode cX0_setMany 13 = .ok (.iload_n 2, 1) := by decide +kernel
theorem dX0_setMany_14 : decode cX0_setMany 14 = .ok (.ishl, 1) := by decide +kernel
theorem dX0_setMany_15 : decode cX0_setMany 15 = .ok (.istore 4, 2) := by decide +kernel
theorem dX0_setMany_17 : decode cX0_setMany 17 = .ok (.aload_n 0, 1) := by decide +kernel
theorem dX0_setMany_18 : decode cX0_setMany 18 = .ok (.getfield 15, 3) := by decide +kernel
theorem dX0_setMany_21 : decode cX0_setMany 21 = .ok (.iload_n 1, 1) := by decide +kernel
theorem dX0_setMany_22 : decode cX0_setMany 22 = .ok (.iload_n 3, 1) := by decide +kernel
theorem dX0_setMany_23 : decode cX0_setMany 23 = .ok (.ifCond .le 15, 3) := by decide +kernel
theorem dX0_setMany_26 : decode cX0_setMany 26 = .ok (.aload_n 0, 1) := by decide +kernel
theorem dX0_setMany_27 : decode cX0_setMany 27 = .ok (.getfield 15, 3) := by decide +kernel
theorem dX0_setMany_30 : decode cX0_setMany 30 = .ok (.iload_n 1, 1) := by decide +kernel
theorem dX0_setMany_31 : decode cX0_setMany 31 = .ok (.iaload, 1) := by decide +kernel
theorem dX0_setMany_32 : decode cX0_setMany 32 = .ok (.iload 4, 2) := by decide +kernel
theorem dX0_setMany_34 : decode cX0_setMany 34 = .ok (.ior, 1) := by decide +kernel
theorem dX0_setMany_35 : decode cX0_setMany 35 = .ok (.goto 14, 3) := by decide +kernel
theorem dX0_setMany_38 : decode cX0_setMany 38 = .ok (.aload_n 0, 1) := by decide +kernel
theorem dX0_setMany_39 : decode cX0_setMany 39 = .ok (.getfield 15, 3) := by decide +kernel
theorem dX0_setMany_42 : decode cX0_setMany 42 = .ok (.iload_n 1, 1) := by decide +kernel
theorem dX0_setMany_43 : decode cX0_setMany 43 = .ok (.iaload, 1) := by decide +kernel
theorem dX0_setMany_44 : decode cX0_setMany 44 = .ok (.iload 4, 2) := by decide +kernel
theorem dX0_setMany_46 : decode cX0_setMany 46 = .ok (.iconst (-1), 1) := by decide +kernel
theorem dX0_setMany_47 : decode cX0_setMany 47 = .ok (.ixor, 1) := by decide +kernel
theorem dX0_setMany_48 : decode cX0_setMany 48 = .ok (.iand, 1) := by decide +kernel
theorem dX0_setMany_49 : decode cX0_setMany 49 = .ok (.iastore, 1) := by decide +kernel
theorem dX0_setMany_50 : decode cX0_setMany 50 = .ok (.return_, 1) := by decide +kernel
theorem dX0_move_0 : decode cX0_move 0 = .ok (.aload_n 0, 1) := by decide +kernel
theorem dX0_move_1 : decode cX0_move 1 = .ok (.iload_n 1, 1) := by decide +kernel
theorem dX0_move_2 : decode cX0_move 2 = .ok (.iload_n 3, 1) := by decide +kernel
theorem dX0_move_3 : decode cX0_move 3 = .ok (.aload_n 0, 1) := by decide +kernel
theorem dX0_move_4 : decode cX0_move 4 = .ok (.iload_n 1, 1) := by decide +kernel
theorem dX0_move_5 : decode cX0_move 5 = .ok (.iload_n 3, 1) := by decide +kernel
theorem dX0_move_6 : decode cX0_move 6 = .ok (.invokevirtual 37, 3) := by decide +kernel
theorem dX0_move_9 : decode cX0_move 9 = .ok (.iconst 1, 1) := by decide +kernel
theorem dX0_move_10 : decode cX0_move 10 = .ok (.isub, 1) := by decide +kernel
theorem dX0_move_11 : decode cX0_move 11 = .ok (.invokevirtual 41, 3) := by decide +kernel
theorem dX0_move_14 : decode cX0_move 14 = .ok (.aload_n 0, 1) := by decide +kernel
theorem dX0_move_15 : decode cX0_move 15 = .ok (.iload_n 2, 1) := by decide +kernel
theorem dX0_move_16 : decode cX0_move 16 = .ok (.iload_n 3, 1) := by decide +kernel
theorem dX0_move_17 : decode cX0_move 17 = .ok (.aload_n 0, 1) := by decide +kernel
theorem dX0_move_18 : decode cX0_move 18 = .ok (.iload_n 2, 1) := by decide +kernel
theorem dX0_move_19 : decode cX0_move 19 = .ok (.iload_n 3, 1) := by decide +kernel
theorem dX0_move_20 : decode cX0_move 20 = .ok (.invokevirtual 37, 3) := by decide +kernel
theorem dX0_move_23 : decode cX0_move 23 = .ok (.iconst 1, 1) := by decide +kernel
theorem dX0_move_24 : decode cX0_move 24 = .ok (.iadd, 1) := by decide +kernel
theorem dX0_move_25 : decode cX0_move 25 = .ok (.invokevirtual 41, 3) := by decide +kernel
theorem dX0_move_28 : decode cX0_move 28 = .ok (.return_, 1) := by decide +kernel
theorem dX0_pay_0 : decode cX0_pay 0 = .ok (.aload_n 0, 1) := by decide +kernel
theorem dX0_pay_1 : decode cX0_pay 1 = .ok (.getfield 18, 3) := by decide +kernel
theorem dX0_pay_4 : decode cX0_pay 4 = .ok (.iload_n 1, 1) := by decide +kernel
theorem dX0_pay_5 : decode cX0_pay 5 = .ok (.dup2, 1) := by decide +kernel
theorem dX0_pay_6 : decode cX0_pay 6 = .ok (.iaload, 1) := by decide +kernel
theorem dX0_pay_7 : decode cX0_pay 7 = .ok (.iload_n 3, 1) := by decide +kernel
theorem dX0_pay_8 : decode cX0_pay 8 = .ok (.isub, 1) := by decide +kernel
theorem dX0_pay_9 : decode cX0_pay 9 = .ok (.iastore, 1) := by decide +kernel
theorem dX0_pay_10 : decode cX0_pay 10 = .ok (.aload_n 0, 1) := by decide +kernel
theorem dX0_pay_11 : decode cX0_pay 11 = .ok (.getfield 18, 3) := by decide +kernel
theorem dX0_pay_14 : decode cX0_pay 14 = .ok (.iload_n 2, 1) := by decide +kernel
theorem dX0_pay_15 : decode cX0_pay 15 = .ok (.dup2, 1) := by decide +kernel
theorem dX0_pay_16 : decode cX0_pay 16 = .ok (.iaload, 1) := by decide +kernel
theorem dX0_pay_17 : decode cX0_pay 17 = .ok (.iload_n 3, 1) := by decide +kernel
theorem dX0_pay_18 : decode cX0_pay 18 = .ok (.iadd, 1) := by decide +kernel
theorem dX0_pay_19 : decode cX0_pay 19 = .ok (.iastore, 1) := by decide +kernel
theorem dX0_pay_20 : decode cX0_pay 20 = .ok (.return_, 1) := by decide +kernel
theorem dX1_init_0 : decode cX1_init 0 = .ok (.aload_n 0, 1) := by decide +kernel
theorem dX1_init_1 : decode cX1_init 1 = .ok (.invokespecial 3, 3) := by decide +kernel
theorem dX1_init_4 : decode cX1_init 4 = .ok (.aload_n 0, 1) := by decide +kernel
theorem dX1_init_5 : decode cX1_init 5 = .ok (.bipush 8, 2) := by decide +kernel
theorem dX1_init_7 : decode cX1_init 7 = .ok (.anewarray 9, 3) := by decide +kernel
theorem dX1_init_10 : decode cX1_init 10 = .ok (.putfield 11, 3) := by decide +kernel
theorem dX1_init_13 : decode cX1_init 13 = .ok (.aload_n 0, 1) := by decide +kernel
theorem dX1_init_14 : decode cX1_init 14 = .ok (.iconst 0, 1) := by decide +kernel
theorem dX1_init_15 : decode cX1_init 15 = .ok (.putfield 17, 3) := by decide +kernel
theorem dX1_init_18 : decode cX1_init 18 = .ok (.iconst 0, 1) := by decide +kernel
theorem dX1_init_19 : decode cX1_init 19 = .ok (.istore_n 1, 1) := by decide +kernel
theorem dX1_init_20 : decode cX1_init 20 = .ok (.iload_n 1, 1) := by decide +kernel
theorem dX1_init_21 : decode cX1_init 21 = .ok (.bipush 8, 2) := by decide +kernel
theorem dX1_init_23 : decode cX1_init 23 = .ok (.if_icmp .ge 22, 3) := by decide +kernel
theorem dX1_init_26 : decode cX1_init 26 = .ok (.aload_n 0, 1) := by decide +kernel
theorem dX1_init_27 : decode cX1_init 27 = .ok (.getfield 11, 3) := by decide +kernel
theorem dX1_init_30 : decode cX1_init 30 = .ok (.iload_n 1, 1) := by decide +kernel
theorem dX1_init_31 : decode cX1_init 31 = .ok (.new 9, 3) := by decide +kernel
theorem dX1_init_34 : decode cX1_init 34 = .ok (.dup, 1) := by decide +kernel
theorem dX1_init_35 : decode cX1_init 35 = .ok (.invokespecial 21, 3) := by decide +kernel
theorem dX1_init_38 : decode cX1_init 38 = .ok (.aastore, 1) := by decide +kernel
theorem dX1_init_39 : decode cX1_init 39 = .ok (.iinc 1 1, 3) := by decide +kernel
theorem dX1_init_42 : decode cX1_init 42 = .ok (.goto (-22), 3) := by decide +kernel
theorem dX1_init_45 : decode cX1_init 45 = .ok (.return_, 1) := by decide +kernel
theorem dX1_copyPast_0 : decode cX1_copyPast 0 = .ok (.aload_n 0, 1) := by decide +kernel
theorem dX1_copyPast_1 : decode cX1_copyPast 1 = .ok (.aload_n 1, 1) := by decide +kernel
theorem dX1_copyPast_2 : decode cX1_copyPast 2 = .ok (.getfield 17, 3) := by decide +kernel
theorem dX1_copyPast_5 : decode cX1_copyPast 5 = .ok (.putfield 17, 3) := by decide +kernel
theorem dX1_copyPast_8 : decode cX1_copyPast 8 = .ok (.iconst 0, 1) := by decide +kernel
theorem dX1_copyPast_9 : decode cX1_copyPast 9 = .ok (.istore_n 2, 1) := by decide +kernel
theorem dX1_copyPast_10 : decode cX1_copyPast 10 = .ok (.iload_n 2, 1) := by decide +kernel
theorem dX1_copyPast_11 : decode cX1_copyPast 11 = .ok (.aload_n 0, 1) := by decide +kernel
theorem dX1_copyPast_12 : decode cX1_copyPast 12 = .ok (.getfield 17, 3) := by decide +kernel
theorem dX1_copyPast_15 : decode cX1_copyPast 15 = .ok (.if_icmp .ge 24, 3) := by decide +kernel
theorem dX1_copyPast_18 : decode cX1_copyPast 18 = .ok (.aload_n 0, 1) := by decide +kernel
theorem dX1_copyPast_19 : decode cX1_copyPast 19 = .ok (.getfield 11, 3) := by decide +kernel
theorem dX1_copyPast_22 : decode cX1_copyPast 22 = .ok (.iload_n 2, 1) := by decide +kernel
theorem dX1_copyPast_23 : decode cX1_copyPast 23 = .ok (.aaload, 1) := by decide +kernel
theorem dX1_copyPast_24 : decode cX1_copyPast 24 = .ok (.aload_n 1, 1) := by decide +kernel
theorem dX1_copyPast_25 : decode cX1_copyPast 25 = .ok (.getfield 11, 3) := by decide +kernel
theorem dX1_copyPast_28 : decode cX1_copyPast 28 = .ok (.iload_n 2, 1) := by decide +kernel
theorem dX1_copyPast_29 : decode cX1_copyPast 29 = .ok (.aaload, 1) := by decide +kernel
theorem dX1_copyPast_30 : decode cX1_copyPast 30 = .ok (.invokevirtual 22, 3) := by decide +kernel
theorem dX1_copyPast_33 : decode cX1_copyPast 33 = .ok (.iinc 2 1, 3) := by decide +kernel
theorem dX1_copyPast_36 : decode cX1_copyPast 36 = .ok (.goto (-26), 3) := by decide +kernel
theorem dX1_copyPast_39 : decode cX1_copyPast 39 = .ok (.return_, 1) := by decide +kernel
theorem dX1_forget_0 : decode cX1_forget 0 = .ok (.aload_n 0, 1) := by decide +kernel
theorem dX1_forget_1 : decode cX1_forget 1 = .ok (.iconst 0, 1) := by decide +kernel
theorem dX1_forget_2 : decode cX1_forget 2 = .ok (.putfield 17, 3) := by decide +kernel
theorem dX1_forget_5 : decode cX1_forget 5 = .ok (.return_, 1) := by decide +kernel
theorem dX1_remember_0 : decode cX1_remember 0 = .ok (.aload_n 0, 1) := by decide +kernel
theorem dX1_remember_1 : decode cX1_remember 1 = .ok (.getfield 17, 3) := by decide +kernel
theorem dX1_remember_4 : decode cX1_remember 4 = .ok (.bipush 8, 2) := by decide +kernel
theorem dX1_remember_6 : decode cX1_remember 6 = .ok (.if_icmp .ne 7, 3) := by decide +kernel
theorem dX1_remember_9 : decode cX1_remember 9 = .ok (.aload_n 0, 1) := by decide +kernel
theorem dX1_remember_10 : decode cX1_remember 10 = .ok (.invokevirtual 26, 3) := by decide +kernel
theorem dX1_remember_13 : decode cX1_remember 13 = .ok (.aload_n 0, 1) := by decide +kernel
theorem dX1_remember_14 : decode cX1_remember 14 = .ok (.getfield 11, 3) := by decide +kernel
theorem dX1_remember_17 : decode cX1_remember 17 = .ok (.aload_n 0, 1) := by decide +kernel
theorem dX1_remember_18 : decode cX1_remember 18 = .ok (.getfield 17, 3) := by decide +kernel
theorem dX1_remember_21 : decode cX1_remember 21 = .ok (.aaload, 1) := by decide +kernel
theorem dX1_remember_22 : decode cX1_remember 22 = .ok (.aload_n 1, 1) := by decide +kernel
theorem dX1_remember_23 : decode cX1_remember 23 = .ok (.invokevirtual 22, 3) := by decide +kernel
theorem dX1_remember_26 : decode cX1_remember 26 = .ok (.aload_n 0, 1) := by decide +kernel
theorem dX1_remember_27 : decode cX1_remember 27 = .ok (.dup, 1) := by decide +kernel
theorem dX1_remember_28 : decode cX1_remember 28 = .ok (.getfield 17, 3) := by decide +kernel
theorem dX1_remember_31 : decode cX1_remember 31 = .ok (.iconst 1, 1) := by decide +kernel
theorem dX1_remember_32 : decode cX1_remember 32 = .ok (.iadd, 1) := by decide +kernel
theorem dX1_remember_33 : decode cX1_remember 33 = .ok (.putfield 17, 3) := by decide +kernel
theorem dX1_remember_36 : decode cX1_remember 36 = .ok (.return_, 1) := by decide +kernel
theorem dX1_loseOldest_0 : decode cX1_loseOldest 0 = .ok (.aload_n 0, 1) := by decide +kernel
theorem dX1_loseOldest_1 : decode cX1_loseOldest 1 = .ok (.getfield 11, 3) := by decide +kernel
theorem dX1_loseOldest_4 : decode cX1_loseOldest 4 = .ok (.iconst 0, 1) := by decide +kernel
theorem dX1_loseOldest_5 : decode cX1_loseOldest 5 = .ok (.aaload, 1) := by decide +kernel
theorem dX1_loseOldest_6 : decode cX1_loseOldest 6 = .ok (.astore_n 1, 1) := by decide +kernel
theorem dX1_loseOldest_7 : decode cX1_loseOldest 7 = .ok (.iconst 1, 1) := by decide +kernel
theorem dX1_loseOldest_8 : decode cX1_loseOldest 8 = .ok (.istore_n 2, 1) := by decide +kernel
theorem dX1_loseOldest_9 : decode cX1_loseOldest 9 = .ok (.iload_n 2, 1) := by decide +kernel
theorem dX1_loseOldest_10 : decode cX1_loseOldest 10 = .ok (.bipush 8, 2) := by decide +kernel
theorem dX1_loseOldest_12 : decode cX1_loseOldest 12 = .ok (.if_icmp .ge 23, 3) := by decide +kernel
theorem dX1_loseOldest_15 : decode cX1_loseOldest 15 = .ok (.aload_n 0, 1) := by decide +kernel
theorem dX1_loseOldest_16 : decode cX1_loseOldest 16 = .ok (.getfield 11, 3) := by decide +kernel
theorem dX1_loseOldest_19 : decode cX1_loseOldest 19 = .ok (.iload_n 2, 1) := by decide +kernel
theorem dX1_loseOldest_20 : decode cX1_loseOldest 20 = .ok (.iconst 1, 1) := by decide +kernel
theorem dX1_loseOldest_21 : decode cX1_loseOldest 21 = .ok (.isub, 1) := by decide +kernel
theorem dX1_loseOldest_22 : decode cX1_loseOldest 22 = .ok (.aload_n 0, 1) := by decide +kernel
theorem dX1_loseOldest_23 : decode cX1_loseOldest 23 = .ok (.getfield 11, 3) := by decide +kernel
theorem dX1_loseOldest_26 : decode cX1_loseOldest 26 = .ok (.iload_n 2, 1) := by decide +kernel
theorem dX1_loseOldest_27 : decode cX1_loseOldest 27 = .ok (.aaload, 1) := by decide +kernel
theorem dX1_loseOldest_28 : decode cX1_loseOldest 28 = .ok (.aastore, 1) := by decide +kernel
theorem dX1_loseOldest_29 : decode cX1_loseOldest 29 = .ok (.iinc 2 1, 3) := by decide +kernel
theorem dX1_loseOldest_32 : decode cX1_loseOldest 32 = .ok (.goto (-23), 3) := by decide +kernel
theorem dX1_loseOldest_35 : decode cX1_loseOldest 35 = .ok (.aload_n 0, 1) := by decide +kernel
theorem dX1_loseOldest_36 : decode cX1_loseOldest 36 = .ok (.getfield 11, 3) := by decide +kernel
theorem dX1_loseOldest_39 : decode cX1_loseOldest 39 = .ok (.bipush 7, 2) := by decide +kernel
theorem dX1_loseOldest_41 : decode cX1_loseOldest 41 = .ok (.aload_n 1, 1) := by decide +kernel
theorem dX1_loseOldest_42 : decode cX1_loseOldest 42 = .ok (.aastore, 1) := by decide +kernel
theorem dX1_loseOldest_43 : decode cX1_loseOldest 43 = .ok (.aload_n 0, 1) := by decide +kernel
theorem dX1_loseOldest_44 : decode cX1_loseOldest 44 = .ok (.bipush 7, 2) := by decide +kernel
theorem dX1_loseOldest_46 : decode cX1_loseOldest 46 = .ok (.putfield 17, 3) := by decide +kernel
theorem dX1_loseOldest_49 : decode cX1_loseOldest 49 = .ok (.return_, 1) := by decide +kernel
theorem dX1_bringBack_0 : decode cX1_bringBack 0 = .ok (.aload_n 0, 1) := by decide +kernel
theorem dX1_bringBack_1 : decode cX1_bringBack 1 = .ok (.getfield 17, 3) := by decide +kernel
theorem dX1_bringBack_4 : decode cX1_bringBack 4 = .ok (.ifCond .le 26, 3) := by decide +kernel
theorem dX1_bringBack_7 : decode cX1_bringBack 7 = .ok (.aload_n 0, 1) := by decide +kernel
theorem dX1_bringBack_8 : decode cX1_bringBack 8 = .ok (.dup, 1) := by decide +kernel
theorem dX1_bringBack_9 : decode cX1_bringBack 9 = .ok (.getfield 17, 3) := by decide +kernel
theorem dX1_bringBack_12 : decode cX1_bringBack 12 = .ok (.iconst 1, 1) := by decide +kernel
theorem dX1_bringBack_13 : decode cX1_bringBack 13 = .ok (.isub, 1) := by decide +kernel
theorem dX1_bringBack_14 : decode cX1_bringBack 14 = .ok (.putfield 17, 3) := by decide +kernel
theorem dX1_bringBack_17 : decode cX1_bringBack 17 = .ok (.aload_n 1, 1) := by decide +kernel
theorem dX1_bringBack_18 : decode cX1_bringBack 18 = .ok (.aload_n 0, 1) := by decide +kernel
theorem dX1_bringBack_19 : decode cX1_bringBack 19 = .ok (.getfield 11, 3) := by decide +kernel
theorem dX1_bringBack_22 : decode cX1_bringBack 22 = .ok (.aload_n 0, 1) := by decide +kernel
theorem dX1_bringBack_23 : decode cX1_bringBack 23 = .ok (.getfield 17, 3) := by decide +kernel
theorem dX1_bringBack_26 : decode cX1_bringBack 26 = .ok (.aaload, 1) := by decide +kernel
theorem dX1_bringBack_27 : decode cX1_bringBack 27 = .ok (.invokevirtual 22, 3) := by decide +kernel
theorem dX1_bringBack_30 : decode cX1_bringBack 30 = .ok (.return_, 1) := by decide +kernel
theorem dX2_init_0 : decode cX2_init 0 = .ok (.aload_n 0, 1) := by decide +kernel
theorem dX2_init_1 : decode cX2_init 1 = .ok (.invokespecial 3, 3) := by decide +kernel
theorem dX2_init_4 : decode cX2_init 4 = .ok (.aload_n 0, 1) := by decide +kernel
theorem dX2_init_5 : decode cX2_init 5 = .ok (.bipush 24, 2) := by decide +kernel
theorem dX2_init_7 : decode cX2_init 7 = .ok (.newarray .long, 2) := by decide +kernel
theorem dX2_init_9 : decode cX2_init 9 = .ok (.putfield 9, 3) := by decide +kernel
theorem dX2_init_12 : decode cX2_init 12 = .ok (.aload_n 0, 1) := by decide +kernel
theorem dX2_init_13 : decode cX2_init 13 = .ok (.iconst (-1), 1) := by decide +kernel
theorem dX2_init_14 : decode cX2_init 14 = .ok (.putfield 15, 3) := by decide +kernel
theorem dX2_init_17 : decode cX2_init 17 = .ok (.aload_n 0, 1) := by decide +kernel
theorem dX2_init_18 : decode cX2_init 18 = .ok (.iconst 0, 1) := by decide +kernel
theorem dX2_init_19 : decode cX2_init 19 = .ok (.putfield 19, 3) := by decide +kernel
theorem dX2_init_22 : decode cX2_init 22 = .ok (.return_, 1) := by decide +kernel
theorem dX2_begin_0 : decode cX2_begin 0 = .ok (.aload_n 0, 1) := by decide +kernel
theorem dX2_begin_1 : decode cX2_begin 1 = .ok (.iload_n 1, 1) := by decide +kernel
theorem dX2_begin_2 : decode cX2_begin 2 = .ok (.putfield 15, 3) := by decide +kernel
theorem dX2_begin_5 : decode cX2_begin 5 = .ok (.aload_n 0, 1) := by decide +kernel
theorem dX2_begin_6 : decode cX2_begin 6 = .ok (.iload_n 2, 1) := by decide +kernel
theorem dX2_begin_7 : decode cX2_begin 7 = .ok (.putfield 19, 3) := by decide +kernel
theorem dX2_begin_10 : decode cX2_begin 10 = .ok (.iconst 0, 1) := by decide +kernel
theorem dX2_begin_11 : decode cX2_begin 11 = .ok (.istore_n 3, 1) := by decide +kernel
theorem dX2_begin_12 : decode cX2_begin 12 = .ok (.iload_n 3, 1) := by decide +kernel
theorem dX2_begin_13 : decode cX2_begin 13 = .ok (.bipush 24, 2) := by decide +kernel
theorem dX2_begin_15 : decode cX2_begin 15 = .ok (.if_icmp .ge 16, 3) := by decide +kernel
theorem dX2_begin_18 : decode cX2_begin 18 = .ok (.aload_n 0, 1) := by decide +kernel
theorem dX2_begin_19 : decode cX2_begin 19 = .ok (.getfield 9, 3) := by decide +kernel
theorem dX2_begin_22 : decode cX2_begin 22 = .ok (.iload_n 3, 1) := by decide +kernel
theorem dX2_begin_23 : decode cX2_begin 23 = .ok (.lconst 0, 1) := by decide +kernel
theorem dX2_begin_24 : decode cX2_begin 24 = .ok (.lastore, 1) := by decide +kernel
theorem dX2_begin_25 : decode cX2_begin 25 = .ok (.iinc 3 1, 3) := by decide +kernel
theorem dX2_begin_28 : decode cX2_begin 28 = .ok (.goto (-16), 3) := by decide +kernel
theorem dX2_begin_31 : decode cX2_begin 31 = .ok (.return_, 1) := by decide +kernel
theorem dX2_hasRoom_0 : decode cX2_hasRoom 0 = .ok (.iload_n 1, 1) := by decide +kernel
theorem dX2_hasRoom_1 : decode cX2_hasRoom 1 = .ok (.ifCond .lt 21, 3) := by decide +kernel
theorem dX2_hasRoom_4 : decode cX2_hasRoom 4 = .ok (.iload_n 2, 1) := by decide +kernel
theorem dX2_hasRoom_5 : decode cX2_hasRoom 5 = .ok (.ifCond .lt 17, 3) := by decide +kernel
theorem dX2_hasRoom_8 : decode cX2_hasRoom 8 = .ok (.iload_n 1, 1) := by decide +kernel
theorem dX2_hasRoom_9 : decode cX2_hasRoom 9 = .ok (.aload_n 0, 1) := by decide +kernel
theorem dX2_hasRoom_10 : decode cX2_hasRoom 10 = .ok (.getfield 19, 3) := by decide +kernel
theorem dX2_hasRoom_13 : decode cX2_hasRoom 13 = .ok (.iload_n 2, 1) := by decide +kernel
theorem dX2_hasRoom_14 : decode cX2_hasRoom 14 = .ok (.isub, 1) := by decide +kernel
theorem dX2_hasRoom_15 : decode cX2_hasRoom 15 = .ok (.if_icmp .gt 7, 3) := by decide +kernel
theorem dX2_hasRoom_18 : decode cX2_hasRoom 18 = .ok (.iconst 1, 1) := by decide +kernel
theorem dX2_hasRoom_19 : decode cX2_hasRoom 19 = .ok (.goto 4, 3) := by decide +kernel
theorem dX2_hasRoom_22 : decode cX2_hasRoom 22 = .ok (.iconst 0, 1) := by decide +kernel
theorem dX2_hasRoom_23 : decode cX2_hasRoom 23 = .ok (.ireturn, 1) := by decide +kernel
theorem dX2_troubleOf_0 : decode cX2_troubleOf 0 = .ok (.aload_n 0, 1) := by decide +kernel
theorem dX2_troubleOf_1 : decode cX2_troubleOf 1 = .ok (.getfield 15, 3) := by decide +kernel
theorem dX2_troubleOf_4 : decode cX2_troubleOf 4 = .ok (.iconst (-1), 1) := by decide +kernel
theorem dX2_troubleOf_5 : decode cX2_troubleOf 5 = .ok (.if_icmp .ne 6, 3) := by decide +kernel
theorem dX2_troubleOf_8 : decode cX2_troubleOf 8 = .ok (.bipush (-11), 2) := by decide +kernel
theorem dX2_troubleOf_10 : decode cX2_troubleOf 10 = .ok (.ireturn, 1) := by decide +kernel
theorem dX2_troubleOf_11 : decode cX2_troubleOf 11 = .ok (.aload_n 0, 1) := by decide +kernel
theorem dX2_troubleOf_12 : decode cX2_troubleOf 12 = .ok (.getfield 15, 3) := by decide +kernel
theorem dX2_troubleOf_15 : decode cX2_troubleOf 15 = .ok (.iload_n 1, 1) := by decide +kernel
theorem dX2_troubleOf_16 : decode cX2_troubleOf 16 = .ok (.if_icmp .eq 6, 3) := by decide +kernel
theorem dX2_troubleOf_19 : decode cX2_troubleOf 19 = .ok (.bipush (-12), 2) := by decide +kernel
theorem dX2_troubleOf_21 : decode cX2_troubleOf 21 = .ok (.ireturn, 1) := by decide +kernel
theorem dX2_troubleOf_22 : decode cX2_troubleOf 22 = .ok (.aload_n 0, 1) := by decide +kernel
theorem dX2_troubleOf_23 : decode cX2_troubleOf 23 = .ok (.iload_n 2, 1) := by decide +kernel
theorem dX2_troubleOf_24 : decode cX2_troubleOf 24 = .ok (.iload_n 3, 1) := by decide +kernel
theorem dX2_troubleOf_25 : decode cX2_troubleOf 25 = .ok (.invokevirtual 22, 3) := by decide +kernel
theorem dX2_troubleOf_28 : decode cX2_troubleOf 28 = .ok (.ifCond .eq 7, 3) := by decide +kernel
theorem dX2_troubleOf_31 : decode cX2_troubleOf 31 = .ok (.iconst 0, 1) := by decide +kernel
theorem dX2_troubleOf_32 : decode cX2_troubleOf 32 = .ok (.goto 5, 3) := by decide +kernel
theorem dX2_troubleOf_35 : decode cX2_troubleOf 35 = .ok (.bipush (-13), 2) := by decide +kernel
theorem dX2_troubleOf_37 : decode cX2_troubleOf 37 = .ok (.ireturn, 1) := by decide +kernel
theorem dX2_put_0 : decode cX2_put 0 = .ok (.aload_n 0, 1) := by decide +kernel
theorem dX2_put_1 : decode cX2_put 1 = .ok (.getfield 15, 3) := by decide +kernel
theorem dX2_put_4 : decode cX2_put 4 = .ok (.tableswitch 66 0 2 #[28, 41, 54], 28) := by decide +kernel
theorem dX2_put_32 : decode cX2_put 32 = .ok (.aload_n 0, 1) := by decide +kernel
theorem dX2_put_33 : decode cX2_put 33 = .ok (.getfield 9, 3) := by decide +kernel
theorem dX2_put_36 : decode cX2_put 36 = .ok (.iload_n 1, 1) := by decide +kernel
theorem dX2_put_37 : decode cX2_put 37 = .ok (.lload_n 2, 1) := by decide +kernel
theorem dX2_put_38 : decode cX2_put 38 = .ok (.l2i, 1) := by decide +kernel
theorem dX2_put_39 : decode cX2_put 39 = .ok (.i2b, 1) := by decide +kernel
theorem dX2_put_40 : decode cX2_put 40 = .ok (.i2l, 1) := by decide +kernel
theorem dX2_put_41 : decode cX2_put 41 = .ok (.lastore, 1) := by decide +kernel
theorem dX2_put_42 : decode cX2_put 42 = .ok (.goto 35, 3) := by decide +kernel
theorem dX2_put_45 : decode cX2_put 45 = .ok (.aload_n 0, 1) := by decide +kernel
theorem dX2_put_46 : decode cX2_put 46 = .ok (.getfield 9, 3) := by decide +kernel
theorem dX2_put_49 : decode cX2_put 49 = .ok (.iload_n 1, 1) := by decide +kernel
theorem dX2_put_50 : decode cX2_put 50 = .ok (.lload_n 2, 1) := by decide +kernel
theorem dX2_put_51 : decode cX2_put 51 = .ok (.l2i, 1) := by decide +kernel
theorem dX2_put_52 : decode cX2_put 52 = .ok (.i2s, 1) := by decide +kernel
theorem dX2_put_53 : decode cX2_put 53 = .ok (.i2l, 1) := by decide +kernel
theorem dX2_put_54 : decode cX2_put 54 = .ok (.lastore, 1) := by decide +kernel
theorem dX2_put_55 : decode cX2_put 55 = .ok (.goto 22, 3) := by decide +kernel
theorem dX2_put_58 : decode cX2_put 58 = .ok (.aload_n 0, 1) := by decide +kernel
theorem dX2_put_59 : decode cX2_put 59 = .ok (.getfield 9, 3) := by decide +kernel
theorem dX2_put_62 : decode cX2_put 62 = .ok (.iload_n 1, 1) := by decide +kernel
theorem dX2_put_63 : decode cX2_put 63 = .ok (.lload_n 2, 1) := by decide +kernel
theorem dX2_put_64 : decode cX2_put 64 = .ok (.l2i, 1) := by decide +kernel
theorem dX2_put_65 : decode cX2_put 65 = .ok (.i2l, 1) := by decide +kernel
theorem dX2_put_66 : decode cX2_put 66 = .ok (.lastore, 1) := by decide +kernel
theorem dX2_put_67 : decode cX2_put 67 = .ok (.goto 10, 3) := by decide +kernel
theorem dX2_put_70 : decode cX2_put 70 = .ok (.aload_n 0, 1) := by decide +kernel
theorem dX2_put_71 : decode cX2_put 71 = .ok (.getfield 9, 3) := by decide +kernel
theorem dX2_put_74 : decode cX2_put 74 = .ok (.iload_n 1, 1) := by decide +kernel
theorem dX2_put_75 : decode cX2_put 75 = .ok (.lload_n 2, 1) := by decide +kernel
theorem dX2_put_76 : decode cX2_put 76 = .ok (.lastore, 1) := by decide +kernel
theorem dX2_put_77 : decode cX2_put 77 = .ok (.return_, 1) := by decide +kernel
theorem dX3_init_0 : decode cX3_init 0 = .ok (.aload_n 0, 1) := by decide +kernel
theorem dX3_init_1 : decode cX3_init 1 = .ok (.invokespecial 3, 3) := by decide +kernel
theorem dX3_init_4 : decode cX3_init 4 = .ok (.aload_n 0, 1) := by decide +kernel
theorem dX3_init_5 : decode cX3_init 5 = .ok (.bipush 100, 2) := by decide +kernel
theorem dX3_init_7 : decode cX3_init 7 = .ok (.newarray .char, 2) := by decide +kernel
theorem dX3_init_9 : decode cX3_init 9 = .ok (.putfield 9, 3) := by decide +kernel
theorem dX3_init_12 : decode cX3_init 12 = .ok (.aload_n 0, 1) := by decide +kernel
theorem dX3_init_13 : decode cX3_init 13 = .ok (.iconst 0, 1) := by decide +kernel
theorem dX3_init_14 : decode cX3_init 14 = .ok (.putfield 15, 3) := by decide +kernel
theorem dX3_init_17 : decode cX3_init 17 = .ok (.aload_n 0, 1) := by decide +kernel
theorem dX3_init_18 : decode cX3_init 18 = .ok (.iconst 0, 1) := by decide +kernel
theorem dX3_init_19 : decode cX3_init 19 = .ok (.putfield 19, 3) := by decide +kernel
theorem dX3_init_22 : decode cX3_init 22 = .ok (.return_, 1) := by decide +kernel
theorem dX3_put_0 : decode cX3_put 0 = .ok (.aload_n 0, 1) := by decide +kernel
theorem dX3_put_1 : decode cX3_put 1 = .ok (.getfield 15, 3) := by decide +kernel
theorem dX3_put_4 : decode cX3_put 4 = .ok (.bipush 100, 2) := by decide +kernel
theorem dX3_put_6 : decode cX3_put 6 = .ok (.if_icmp .ge 23, 3) := by decide +kernel
theorem dX3_put_9 : decode cX3_put 9 = .ok (.aload_n 0, 1) := by decide +kernel
theorem dX3_put_10 : decode cX3_put 10 = .ok (.getfield 9, 3) := by decide +kernel
theorem dX3_put_13 : decode cX3_put 13 = .ok (.aload_n 0, 1) := by decide +kernel
theorem dX3_put_14 : decode cX3_put 14 = .ok (.getfield 15, 3) := by decide +kernel
theorem dX3_put_17 : decode cX3_put 17 = .ok (.iload_n 1, 1) := by decide +kernel
theorem dX3_put_18 : decode cX3_put 18 = .ok (.castore, 1) := by decide +kernel
theorem dX3_put_19 : decode cX3_put 19 = .ok (.aload_n 0, 1) := by decide +kernel
theorem dX3_put_20 : decode cX3_put 20 = .ok (.dup, 1) := by decide +kernel
theorem dX3_put_21 : decode cX3_put 21 = .ok (.getfield 15, 3) := by decide +kernel
theorem dX3_put_24 : decode cX3_put 24 = .ok (.iconst 1, 1) := by decide +kernel
theorem dX3_put_25 : decode cX3_put 25 = .ok (.iadd, 1) := by decide +kernel
theorem dX3_put_26 : decode cX3_put 26 = .ok (.putfield 15, 3) := by decide +kernel
theorem dX3_put_29 : decode cX3_put 29 = .ok (.aload_n 0, 1) := by decide +kernel
theorem dX3_put_30 : decode cX3_put 30 = .ok (.getfield 15, 3) := by decide +kernel
theorem dX3_put_33 : decode cX3_put 33 = .ok (.ireturn, 1) := by decide +kernel
theorem dX3_wipe_0 : decode cX3_wipe 0 = .ok (.aload_n 0, 1) := by decide +kernel
theorem dX3_wipe_1 : decode cX3_wipe 1 = .ok (.iconst 0, 1) := by decide +kernel
theorem dX3_wipe_2 : decode cX3_wipe 2 = .ok (.putfield 15, 3) := by decide +kernel
theorem dX3_wipe_5 : decode cX3_wipe 5 = .ok (.aload_n 0, 1) := by decide +kernel
theorem dX3_wipe_6 : decode cX3_wipe 6 = .ok (.iconst 0, 1) := by decide +kernel
theorem dX3_wipe_7 : decode cX3_wipe 7 = .ok (.putfield 19, 3) := by decide +kernel
theorem dX3_wipe_10 : decode cX3_wipe 10 = .ok (.return_, 1) := by decide +kernel
theorem dX3_tell_0 : decode cX3_tell 0 = .ok (.aload_n 0, 1) := by decide +kernel
theorem dX3_tell_1 : decode cX3_tell 1 = .ok (.iconst 0, 1) := by decide +kernel
theorem dX3_tell_2 : decode cX3_tell 2 = .ok (.putfield 19, 3) := by decide +kernel
theorem dX3_tell_5 : decode cX3_tell 5 = .ok (.aload_n 1, 1) := by decide +kernel
theorem dX3_tell_6 : decode cX3_tell 6 = .ok (.iconst 0, 1) := by decide +kernel
theorem dX3_tell_7 : decode cX3_tell 7 = .ok (.putfield 22, 3) := by decide +kernel
theorem dX3_tell_10 : decode cX3_tell 10 = .ok (.aload_n 0, 1) := by decide +kernel
theorem dX3_tell_11 : decode cX3_tell 11 = .ok (.aload_n 1, 1) := by decide +kernel
theorem dX3_tell_12 : decode cX3_tell 12 = .ok (.getfield 27, 3) := by decide +kernel
theorem dX3_tell_15 : decode cX3_tell 15 = .ok (.invokevirtual 31, 3) := by decide +kernel
theorem dX3_tell_18 : decode cX3_tell 18 = .ok (.ifCond .eq 32, 3) := by decide +kernel
theorem dX3_tell_21 : decode cX3_tell 21 = .ok (.aload_n 0, 1) := by decide +kernel
theorem dX3_tell_22 : decode cX3_tell 22 = .ok (.bipush 59, 2) := by decide +kernel
theorem dX3_tell_24 : decode cX3_tell 24 = .ok (.invokevirtual 35, 3) := by decide +kernel
theorem dX3_tell_27 : decode cX3_tell 27 = .ok (.ifCond .eq 23, 3) := by decide +kernel
theorem dX3_tell_30 : decode cX3_tell 30 = .ok (.aload_n 0, 1) := by decide +kernel
theorem dX3_tell_31 : decode cX3_tell 31 = .ok (.aload_n 1, 1) := by decide +kernel
theorem dX3_tell_32 : decode cX3_tell 32 = .ok (.invokevirtual 39, 3) := by decide +kernel
theorem dX3_tell_35 : decode cX3_tell 35 = .ok (.ifCond .eq 15, 3) := by decide +kernel
theorem dX3_tell_38 : decode cX3_tell 38 = .ok (.aload_n 0, 1) := by decide +kernel
theorem dX3_tell_39 : decode cX3_tell 39 = .ok (.aload_n 1, 1) := by decide +kernel
theorem dX3_tell_40 : decode cX3_tell 40 = .ok (.invokevirtual 43, 3) := by decide +kernel
theorem dX3_tell_43 : decode cX3_tell 43 = .ok (.ifCond .eq 7, 3) := by decide +kernel
theorem dX3_tell_46 : decode cX3_tell 46 = .ok (.iconst 1, 1) := by decide +kernel
theorem dX3_tell_47 : decode cX3_tell 47 = .ok (.goto 4, 3) := by decide +kernel
theorem dX3_tell_50 : decode cX3_tell 50 = .ok (.iconst 0, 1) := by decide +kernel
theorem dX3_tell_51 : decode cX3_tell 51 = .ok (.ireturn, 1) := by decide +kernel
theorem dX3_tellSundays_0 : decode cX3_tellSundays 0 = .ok (.aload_n 1, 1) := by decide +kernel
theorem dX3_tellSundays_1 : decode cX3_tellSundays 1 = .ok (.iconst 0, 1) := by decide +kernel
theorem dX3_tellSundays_2 : decode cX3_tellSundays 2 = .ok (.putfield 46, 3) := by decide +kernel
theorem dX3_tellSundays_5 : decode cX3_tellSundays 5 = .ok (.aload_n 1, 1) := by decide +kernel
theorem dX3_tellSundays_6 : decode cX3_tellSundays 6 = .ok (.iconst 0, 1) := by decide +kernel
theorem dX3_tellSundays_7 : decode cX3_tellSundays 7 = .ok (.putfield 51, 3) := by decide +kernel
theorem dX3_tellSundays_10 : decode cX3_tellSundays 10 = .ok (.iconst 0, 1) := by decide +kernel
theorem dX3_tellSundays_11 : decode cX3_tellSundays 11 = .ok (.istore_n 2, 1) := by decide +kernel
theorem dX3_tellSundays_12 : decode cX3_tellSundays 12 = .ok (.iload_n 2, 1) := by decide +kernel
theorem dX3_tellSundays_13 : decode cX3_tellSundays 13 = .ok (.bipush 6, 2) := by decide +kernel
theorem dX3_tellSundays_15 : decode cX3_tellSundays 15 = .ok (.if_icmp .ge 50, 3) := by decide +kernel
theorem dX3_tellSundays_18 : decode cX3_tellSundays 18 = .ok (.aload_n 0, 1) := by decide +kernel
theorem dX3_tellSundays_19 : decode cX3_tellSundays 19 = .ok (.ldc 54, 2) := by decide +kernel
theorem dX3_tellSundays_21 : decode cX3_tellSundays 21 = .ok (.invokevirtual 56, 3) := by decide +kernel
theorem dX3_tellSundays_24 : decode cX3_tellSundays 24 = .ok (.istore_n 3, 1) := by decide +kernel
theorem dX3_tellSundays_25 : decode cX3_tellSundays 25 = .ok (.iload_n 3, 1) := by decide +kernel
theorem dX3_tellSundays_26 : decode cX3_tellSundays 26 = .ok (.ifCond .ge 5, 3) := by decide +kernel
theorem dX3_tellSundays_29 : decode cX3_tellSundays 29 = .ok (.iconst 0, 1) := by decide +kernel
theorem dX3_tellSundays_30 : decode cX3_tellSundays 30 = .ok (.ireturn, 1) := by decide +kernel
theorem dX3_tellSundays_31 : decode cX3_tellSundays 31 = .ok (.aload_n 1, 1) := by decide +kernel
theorem dX3_tellSundays_32 : decode cX3_tellSundays 32 = .ok (.dup, 1) := by decide +kernel
theorem dX3_tellSundays_33 : decode cX3_tellSundays 33 = .ok (.getfield 46, 3) := by decide +kernel
theorem dX3_tellSundays_36 : decode cX3_tellSundays 36 = .ok (.iload_n 3, 1) := by decide +kernel
theorem dX3_tellSundays_37 : decode cX3_tellSundays 37 = .ok (.iconst 1, 1) := by decide +kernel
theorem dX3_tellSundays_38 : decode cX3_tellSundays 38 = .ok (.iand, 1) := by decide +kernel
theorem dX3_tellSundays_39 : decode cX3_tellSundays 39 = .ok (.iload_n 2, 1) := by decide +kernel
theorem dX3_tellSundays_40 : decode cX3_tellSundays 40 = .ok (.ishl, 1) := by decide +kernel
theorem dX3_tellSundays_41 : decode cX3_tellSundays 41 = .ok (.ior, 1) := by decide +kernel
theorem dX3_tellSundays_42 : decode cX3_tellSundays 42 = .ok (.putfield 46, 3) := by decide +kernel
theorem dX3_tellSundays_45 : decode cX3_tellSundays 45 = .ok (.aload_n 1, 1) := by decide +kernel
theorem dX3_tellSundays_46 : decode cX3_tellSundays 46 = .ok (.dup, 1) := by decide +kernel
theorem dX3_tellSundays_47 : decode cX3_tellSundays 47 = .ok (.getfield 51, 3) := by decide +kernel
theorem dX3_tellSundays_50 : decode cX3_tellSundays 50 = .ok (.iload_n 3, 1) := by decide +kernel
theorem dX3_tellSundays_51 : decode cX3_tellSundays 51 = .ok (.iconst 1, 1) := by decide +kernel
theorem dX3_tellSundays_52 : decode cX3_tellSundays 52 = .ok (.ishr, 1) := by decide +kernel
theorem dX3_tellSundays_53 : decode cX3_tellSundays 53 = .ok (.iload_n 2, 1) := by decide +kernel
theorem dX3_tellSundays_54 : decode cX3_tellSundays 54 = .ok (.ishl, 1) := by decide +kernel
theorem dX3_tellSundays_55 : decode cX3_tellSundays 55 = .ok (.ior, 1) := by decide +kernel
theorem dX3_tellSundays_56 : decode cX3_tellSundays 56 = .ok (.putfield 51, 3) := by decide +kernel
theorem dX3_tellSundays_59 : decode cX3_tellSundays 59 = .ok (.iinc 2 1, 3) := by decide +kernel
theorem dX3_tellSundays_62 : decode cX3_tellSundays 62 = .ok (.goto (-50), 3) := by decide +kernel
theorem dX3_tellSundays_65 : decode cX3_tellSundays 65 = .ok (.iconst 1, 1) := by decide +kernel
theorem dX3_tellSundays_66 : decode cX3_tellSundays 66 = .ok (.ireturn, 1) := by decide +kernel
theorem dX3_tellPeople_0 : decode cX3_tellPeople 0 = .ok (.iconst 0, 1) := by decide +kernel
theorem dX3_tellPeople_1 : decode cX3_tellPeople 1 = .ok (.istore_n 2, 1) := by decide +kernel
theorem dX3_tellPeople_2 : decode cX3_tellPeople 2 = .ok (.iload_n 2, 1) := by decide +kernel
theorem dX3_tellPeople_3 : decode cX3_tellPeople 3 = .ok (.bipush 6, 2) := by decide +kernel
theorem dX3_tellPeople_5 : decode cX3_tellPeople 5 = .ok (.if_icmp .ge 35, 3) := by decide +kernel
theorem dX3_tellPeople_8 : decode cX3_tellPeople 8 = .ok (.iload_n 2, 1) := by decide +kernel
theorem dX3_tellPeople_9 : decode cX3_tellPeople 9 = .ok (.ifCond .le 15, 3) := by decide +kernel
theorem dX3_tellPeople_12 : decode cX3_tellPeople 12 = .ok (.aload_n 0, 1) := by decide +kernel
theorem dX3_tellPeople_13 : decode cX3_tellPeople 13 = .ok (.bipush 44, 2) := by decide +kernel
theorem dX3_tellPeople_15 : decode cX3_tellPeople 15 = .ok (.invokevirtual 35, 3) := by decide +kernel
theorem dX3_tellPeople_18 : decode cX3_tellPeople 18 = .ok (.ifCond .ne 6, 3) := by decide +kernel
theorem dX3_tellPeople_21 : decode cX3_tellPeople 21 = .ok (.goto 19, 3) := by decide +kernel
theorem dX3_tellPeople_24 : decode cX3_tellPeople 24 = .ok (.aload_n 0, 1) := by decide +kernel
theorem dX3_tellPeople_25 : decode cX3_tellPeople 25 = .ok (.aload_n 1, 1) := by decide +kernel
theorem dX3_tellPeople_26 : decode cX3_tellPeople 26 = .ok (.invokevirtual 60, 3) := by decide +kernel
theorem dX3_tellPeople_29 : decode cX3_tellPeople 29 = .ok (.ifCond .ne 5, 3) := by decide +kernel
theorem dX3_tellPeople_32 : decode cX3_tellPeople 32 = .ok (.iconst 0, 1) := by decide +kernel
theorem dX3_tellPeople_33 : decode cX3_tellPeople 33 = .ok (.ireturn, 1) := by decide +kernel
theorem dX3_tellPeople_34 : decode cX3_tellPeople 34 = .ok (.iinc 2 1, 3) := by decide +kernel
theorem dX3_tellPeople_37 : decode cX3_tellPeople 37 = .ok (.goto (-35), 3) := by decide +kernel
theorem dX3_tellPeople_40 : decode cX3_tellPeople 40 = .ok (.aload_n 0, 1) := by decide +kernel
theorem dX3_tellPeople_41 : decode cX3_tellPeople 41 = .ok (.invokevirtual 63, 3) := by decide +kernel
theorem dX3_tellPeople_44 : decode cX3_tellPeople 44 = .ok (.iconst (-1), 1) := by decide +kernel
theorem dX3_tellPeople_45 : decode cX3_tellPeople 45 = .ok (.if_icmp .ne 7, 3) := by decide +kernel
theorem dX3_tellPeople_48 : decode cX3_tellPeople 48 = .ok (.iconst 1, 1) := by decide +kernel
theorem dX3_tellPeople_49 : decode cX3_tellPeople 49 = .ok (.goto 4, 3) := by decide +kernel
theorem dX3_tellPeople_52 : decode cX3_tellPeople 52 = .ok (.iconst 0, 1) := by decide +kernel
theorem dX3_tellPeople_53 : decode cX3_tellPeople 53 = .ok (.ireturn, 1) := by decide +kernel
theorem dX3_tellOne_0 : decode cX3_tellOne 0 = .ok (.aload_n 0, 1) := by decide +kernel
theorem dX3_tellOne_1 : decode cX3_tellOne 1 = .ok (.ldc 67, 2) := by decide +kernel
theorem dX3_tellOne_3 : decode cX3_tellOne 3 = .ok (.invokevirtual 56, 3) := by decide +kernel
theorem dX3_tellOne_6 : decode cX3_tellOne 6 = .ok (.istore_n 2, 1) := by decide +kernel
theorem dX3_tellOne_7 : decode cX3_tellOne 7 = .ok (.iload_n 2, 1) := by decide +kernel
theorem dX3_tellOne_8 : decode cX3_tellOne 8 = .ok (.ifCond .ge 5, 3) := by decide +kernel
theorem dX3_tellOne_11 : decode cX3_tellOne 11 = .ok (.iconst 0, 1) := by decide +kernel
theorem dX3_tellOne_12 : decode cX3_tellOne 12 = .ok (.ireturn, 1) := by decide +kernel
theorem dX3_tellOne_13 : decode cX3_tellOne 13 = .ok (.aload_n 0, 1) := by decide +kernel
theorem dX3_tellOne_14 : decode cX3_tellOne 14 = .ok (.invokevirtual 69, 3) := by decide +kernel
theorem dX3_tellOne_17 : decode cX3_tellOne 17 = .ok (.istore_n 3, 1) := by decide +kernel
theorem dX3_tellOne_18 : decode cX3_tellOne 18 = .ok (.iload_n 3, 1) := by decide +kernel
theorem dX3_tellOne_19 : decode cX3_tellOne 19 = .ok (.ifCond .ge 5, 3) := by decide +kernel
theorem dX3_tellOne_22 : decode cX3_tellOne 22 = .ok (.iconst 0, 1) := by decide +kernel
theorem dX3_tellOne_23 : decode cX3_tellOne 23 = .ok (.ireturn, 1) := by decide +kernel
theorem dX3_tellOne_24 : decode cX3_tellOne 24 = .ok (.aload_n 1, 1) := by decide +kernel
theorem dX3_tellOne_25 : decode cX3_tellOne 25 = .ok (.iload_n 2, 1) := by decide +kernel
theorem dX3_tellOne_26 : decode cX3_tellOne 26 = .ok (.iload_n 3, 1) := by decide +kernel
theorem dX3_tellOne_27 : decode cX3_tellOne 27 = .ok (.invokevirtual 72, 3) := by decide +kernel
theorem dX3_tellOne_30 : decode cX3_tellOne 30 = .ok (.istore 4, 2) := by decide +kernel
theorem dX3_tellOne_32 : decode cX3_tellOne 32 = .ok (.iload 4, 2) := by decide +kernel
theorem dX3_tellOne_34 : decode cX3_tellOne 34 = .ok (.ifCond .ge 5, 3) := by decide +kernel
theorem dX3_tellOne_37 : decode cX3_tellOne 37 = .ok (.iconst 0, 1) := by decide +kernel
theorem dX3_tellOne_38 : decode cX3_tellOne 38 = .ok (.ireturn, 1) := by decide +kernel
theorem dX3_tellOne_39 : decode cX3_tellOne 39 = .ok (.aload_n 0, 1) := by decide +kernel
theorem dX3_tellOne_40 : decode cX3_tellOne 40 = .ok (.bipush 62, 2) := by decide +kernel
theorem dX3_tellOne_42 : decode cX3_tellOne 42 = .ok (.invokevirtual 35, 3) := by decide +kernel
theorem dX3_tellOne_45 : decode cX3_tellOne 45 = .ok (.ifCond .eq 27, 3) := by decide +kernel
theorem dX3_tellOne_48 : decode cX3_tellOne 48 = .ok (.aload_n 0, 1) := by decide +kernel
theorem dX3_tellOne_49 : decode cX3_tellOne 49 = .ok (.ldc 76, 2) := by decide +kernel
theorem dX3_tellOne_51 : decode cX3_tellOne 51 = .ok (.invokevirtual 56, 3) := by decide +kernel
theorem dX3_tellOne_54 : decode cX3_tellOne 54 = .ok (.istore 5, 2) := by decide +kernel
theorem dX3_tellOne_56 : decode cX3_tellOne 56 = .ok (.iload 5, 2) := by decide +kernel
theorem dX3_tellOne_58 : decode cX3_tellOne 58 = .ok (.ifCond .ge 5, 3) := by decide +kernel
theorem dX3_tellOne_61 : decode cX3_tellOne 61 = .ok (.iconst 0, 1) := by decide +kernel
theorem dX3_tellOne_62 : decode cX3_tellOne 62 = .ok (.ireturn, 1) := by decide +kernel
theorem dX3_tellOne_63 : decode cX3_tellOne 63 = .ok (.aload_n 1, 1) := by decide +kernel
theorem dX3_tellOne_64 : decode cX3_tellOne 64 = .ok (.getfield 78, 3) := by decide +kernel
theorem dX3_tellOne_67 : decode cX3_tellOne 67 = .ok (.iload 4, 2) := by decide +kernel
theorem dX3_tellOne_69 : decode cX3_tellOne 69 = .ok (.iload 5, 2) := by decide +kernel
theorem dX3_tellOne_71 : decode cX3_tellOne 71 = .ok (.iastore, 1) := by decide +kernel
theorem dX3_tellOne_72 : decode cX3_tellOne 72 = .ok (.aload_n 0, 1) := by decide +kernel
theorem dX3_tellOne_73 : decode cX3_tellOne 73 = .ok (.bipush 45, 2) := by decide +kernel
theorem dX3_tellOne_75 : decode cX3_tellOne 75 = .ok (.invokevirtual 35, 3) := by decide +kernel
theorem dX3_tellOne_78 : decode cX3_tellOne 78 = .ok (.ifCond .eq 17, 3) := by decide +kernel
theorem dX3_tellOne_81 : decode cX3_tellOne 81 = .ok (.aload_n 0, 1) := by decide +kernel
theorem dX3_tellOne_82 : decode cX3_tellOne 82 = .ok (.aload_n 1, 1) := by decide +kernel
theorem dX3_tellOne_83 : decode cX3_tellOne 83 = .ok (.getfield 27, 3) := by decide +kernel
theorem dX3_tellOne_86 : decode cX3_tellOne 86 = .ok (.iload 4, 2) := by decide +kernel
theorem dX3_tellOne_88 : decode cX3_tellOne 88 = .ok (.iconst (-1), 1) := by decide +kernel
theorem dX3_tellOne_89 : decode cX3_tellOne 89 = .ok (.invokevirtual 82, 3) := by decide +kernel
theorem dX3_tellOne_92 : decode cX3_tellOne 92 = .ok (.ifCond .eq 30, 3) := by decide +kernel
theorem dX3_tellOne_95 : decode cX3_tellOne 95 = .ok (.aload_n 0, 1) := by decide +kernel
theorem dX3_tellOne_96 : decode cX3_tellOne 96 = .ok (.bipush 43, 2) := by decide +kernel
theorem dX3_tellOne_98 : decode cX3_tellOne 98 = .ok (.invokevirtual 35, 3) := by decide +kernel
theorem dX3_tellOne_101 : decode cX3_tellOne 101 = .ok (.ifCond .eq 17, 3) := by decide +kernel
theorem dX3_tellOne_104 : decode cX3_tellOne 104 = .ok (.aload_n 0, 1) := by decide +kernel
theorem dX3_tellOne_105 : decode cX3_tellOne 105 = .ok (.aload_n 1, 1) := by decide +kernel
theorem dX3_tellOne_106 : decode cX3_tellOne 106 = .ok (.getfield 27, 3) := by decide +kernel
theorem dX3_tellOne_109 : decode cX3_tellOne 109 = .ok (.iload 4, 2) := by decide +kernel
theorem dX3_tellOne_111 : decode cX3_tellOne 111 = .ok (.iconst 1, 1) := by decide +kernel
theorem dX3_tellOne_112 : decode cX3_tellOne 112 = .ok (.invokevirtual 82, 3) := by decide +kernel
theorem dX3_tellOne_115 : decode cX3_tellOne 115 = .ok (.ifCond .eq 7, 3) := by decide +kernel
theorem dX3_tellOne_118 : decode cX3_tellOne 118 = .ok (.iconst 1, 1) := by decide +kernel
theorem dX3_tellOne_119 : decode cX3_tellOne 119 = .ok (.goto 4, 3) := by decide +kernel
theorem dX3_tellOne_122 : decode cX3_tellOne 122 = .ok (.iconst 0, 1) := by decide +kernel
theorem dX3_tellOne_123 : decode cX3_tellOne 123 = .ok (.ireturn, 1) := by decide +kernel
theorem dX3_tellHalves_0 : decode cX3_tellHalves 0 = .ok (.iconst (-1), 1) := by decide +kernel
theorem dX3_tellHalves_1 : decode cX3_tellHalves 1 = .ok (.istore 4, 2) := by decide +kernel
theorem dX3_tellHalves_3 : decode cX3_tellHalves 3 = .ok (.iconst 0, 1) := by decide +kernel
theorem dX3_tellHalves_4 : decode cX3_tellHalves 4 = .ok (.istore 5, 2) := by decide +kernel
theorem dX3_tellHalves_6 : decode cX3_tellHalves 6 = .ok (.iload 5, 2) := by decide +kernel
theorem dX3_tellHalves_8 : decode cX3_tellHalves 8 = .ok (.bipush 12, 2) := by decide +kernel
theorem dX3_tellHalves_10 : decode cX3_tellHalves 10 = .ok (.if_icmp .ge 65, 3) := by decide +kernel
theorem dX3_tellHalves_13 : decode cX3_tellHalves 13 = .ok (.aload_n 0, 1) := by decide +kernel
theorem dX3_tellHalves_14 : decode cX3_tellHalves 14 = .ok (.invokevirtual 63, 3) := by decide +kernel
theorem dX3_tellHalves_17 : decode cX3_tellHalves 17 = .ok (.bipush 97, 2) := by decide +kernel
theorem dX3_tellHalves_19 : decode cX3_tellHalves 19 = .ok (.isub, 1) := by decide +kernel
theorem dX3_tellHalves_20 : decode cX3_tellHalves 20 = .ok (.istore 6, 2) := by decide +kernel
theorem dX3_tellHalves_22 : decode cX3_tellHalves 22 = .ok (.iload 6, 2) := by decide +kernel
theorem dX3_tellHalves_24 : decode cX3_tellHalves 24 = .ok (.iload 4, 2) := by decide +kernel
theorem dX3_tellHalves_26 : decode cX3_tellHalves 26 = .ok (.if_icmp .le 49, 3) := by decide +kernel
theorem dX3_tellHalves_29 : decode cX3_tellHalves 29 = .ok (.iload 6, 2) := by decide +kernel
theorem dX3_tellHalves_31 : decode cX3_tellHalves 31 = .ok (.bipush 12, 2) := by decide +kernel
theorem dX3_tellHalves_33 : decode cX3_tellHalves 33 = .ok (.if_icmp .lt 6, 3) := by decide +kernel
theorem dX3_tellHalves_36 : decode cX3_tellHalves 36 = .ok (.goto 39, 3) := by decide +kernel
theorem dX3_tellHalves_39 : decode cX3_tellHalves 39 = .ok (.aload_n 0, 1) := by decide +kernel
theorem dX3_tellHalves_40 : decode cX3_tellHalves 40 = .ok (.dup, 1) := by decide +kernel
theorem dX3_tellHalves_41 : decode cX3_tellHalves 41 = .ok (.getfield 19, 3) := by decide +kernel
theorem dX3_tellHalves_44 : decode cX3_tellHalves 44 = .ok (.iconst 1, 1) := by decide +kernel
theorem dX3_tellHalves_45 : decode cX3_tellHalves 45 = .ok (.iadd, 1) := by decide +kernel
theorem dX3_tellHalves_46 : decode cX3_tellHalves 46 = .ok (.putfield 19, 3) := by decide +kernel
theorem dX3_tellHalves_49 : decode cX3_tellHalves 49 = .ok (.iload 6, 2) := by decide +kernel
theorem dX3_tellHalves_51 : decode cX3_tellHalves 51 = .ok (.istore 4, 2) := by decide +kernel
theorem dX3_tellHalves_53 : decode cX3_tellHalves 53 = .ok (.aload_n 1, 1) := by decide +kernel
theorem dX3_tellHalves_54 : decode cX3_tellHalves 54 = .ok (.iload_n 2, 1) := by decide +kernel
theorem dX3_tellHalves_55 : decode cX3_tellHalves 55 = .ok (.iload 6, 2) := by decide +kernel
theorem dX3_tellHalves_57 : decode cX3_tellHalves 57 = .ok (.aload_n 1, 1) := by decide +kernel
theorem dX3_tellHalves_58 : decode cX3_tellHalves 58 = .ok (.iload_n 2, 1) := by decide +kernel
theorem dX3_tellHalves_59 : decode cX3_tellHalves 59 = .ok (.iload 6, 2) := by decide +kernel
theorem dX3_tellHalves_61 : decode cX3_tellHalves 61 = .ok (.invokevirtual 86, 3) := by decide +kernel
theorem dX3_tellHalves_64 : decode cX3_tellHalves 64 = .ok (.iload_n 3, 1) := by decide +kernel
theorem dX3_tellHalves_65 : decode cX3_tellHalves 65 = .ok (.iadd, 1) := by decide +kernel
theorem dX3_tellHalves_66 : decode cX3_tellHalves 66 = .ok (.invokevirtual 89, 3) := by decide +kernel
theorem dX3_tellHalves_69 : decode cX3_tellHalves 69 = .ok (.iinc 5 1, 3) := by decide +kernel
theorem dX3_tellHalves_72 : decode cX3_tellHalves 72 = .ok (.goto (-66), 3) := by decide +kernel
theorem dX3_tellHalves_75 : decode cX3_tellHalves 75 = .ok (.iload 4, 2) := by decide +kernel
theorem dX3_tellHalves_77 : decode cX3_tellHalves 77 = .ok (.ifCond .lt 7, 3) := by decide +kernel
theorem dX3_tellHalves_80 : decode cX3_tellHalves 80 = .ok (.iconst 1, 1) := by decide +kernel
theorem dX3_tellHalves_81 : decode cX3_tellHalves 81 = .ok (.goto 4, 3) := by decide +kernel
theorem dX3_tellHalves_84 : decode cX3_tellHalves 84 = .ok (.iconst 0, 1) := by decide +kernel
theorem dX3_tellHalves_85 : decode cX3_tellHalves 85 = .ok (.ireturn, 1) := by decide +kernel
theorem dX3_lovesAreThere_0 : decode cX3_lovesAreThere 0 = .ok (.iconst 0, 1) := by decide +kernel
theorem dX3_lovesAreThere_1 : decode cX3_lovesAreThere 1 = .ok (.istore_n 2, 1) := by decide +kernel
theorem dX3_lovesAreThere_2 : decode cX3_lovesAreThere 2 = .ok (.iload_n 2, 1) := by decide +kernel
theorem dX3_lovesAreThere_3 : decode cX3_lovesAreThere 3 = .ok (.aload_n 1, 1) := by decide +kernel
theorem dX3_lovesAreThere_4 : decode cX3_lovesAreThere 4 = .ok (.getfield 22, 3) := by decide +kernel
theorem dX3_lovesAreThere_7 : decode cX3_lovesAreThere 7 = .ok (.if_icmp .ge 24, 3) := by decide +kernel
theorem dX3_lovesAreThere_10 : decode cX3_lovesAreThere 10 = .ok (.aload_n 1, 1) := by decide +kernel
theorem dX3_lovesAreThere_11 : decode cX3_lovesAreThere 11 = .ok (.getfield 78, 3) := by decide +kernel
theorem dX3_lovesAreThere_14 : decode cX3_lovesAreThere 14 = .ok (.iload_n 2, 1) := by decide +kernel
theorem dX3_lovesAreThere_15 : decode cX3_lovesAreThere 15 = .ok (.iaload, 1) := by decide +kernel
theorem dX3_lovesAreThere_16 : decode cX3_lovesAreThere 16 = .ok (.aload_n 1, 1) := by decide +kernel
theorem dX3_lovesAreThere_17 : decode cX3_lovesAreThere 17 = .ok (.getfield 22, 3) := by decide +kernel
theorem dX3_lovesAreThere_20 : decode cX3_lovesAreThere 20 = .ok (.if_icmp .lt 5, 3) := by decide +kernel
theorem dX3_lovesAreThere_23 : decode cX3_lovesAreThere 23 = .ok (.iconst 0, 1) := by decide +kernel
theorem dX3_lovesAreThere_24 : decode cX3_lovesAreThere 24 = .ok (.ireturn, 1) := by decide +kernel
theorem dX3_lovesAreThere_25 : decode cX3_lovesAreThere 25 = .ok (.iinc 2 1, 3) := by decide +kernel
theorem dX3_lovesAreThere_28 : decode cX3_lovesAreThere 28 = .ok (.goto (-26), 3) := by decide +kernel
theorem dX3_lovesAreThere_31 : decode cX3_lovesAreThere 31 = .ok (.iconst 1, 1) := by decide +kernel
theorem dX3_lovesAreThere_32 : decode cX3_lovesAreThere 32 = .ok (.ireturn, 1) := by decide +kernel
theorem dX3_next_0 : decode cX3_next 0 = .ok (.aload_n 0, 1) := by decide +kernel
theorem dX3_next_1 : decode cX3_next 1 = .ok (.getfield 19, 3) := by decide +kernel
theorem dX3_next_4 : decode cX3_next 4 = .ok (.aload_n 0, 1) := by decide +kernel
theorem dX3_next_5 : decode cX3_next 5 = .ok (.getfield 15, 3) := by decide +kernel
theorem dX3_next_8 : decode cX3_next 8 = .ok (.if_icmp .ge 30, 3) := by decide +kernel
theorem dX3_next_11 : decode cX3_next 11 = .ok (.aload_n 0, 1) := by decide +kernel
theorem dX3_next_12 : decode cX3_next 12 = .ok (.getfield 9, 3) := by decide +kernel
theorem dX3_next_15 : decode cX3_next 15 = .ok (.aload_n 0, 1) := by decide +kernel
theorem dX3_next_16 : decode cX3_next 16 = .ok (.getfield 19, 3) := by decide +kernel
theorem dX3_next_19 : decode cX3_next 19 = .ok (.caload, 1) := by decide +kernel
theorem dX3_next_20 : decode cX3_next 20 = .ok (.bipush 32, 2) := by decide +kernel
theorem dX3_next_22 : decode cX3_next 22 = .ok (.if_icmp .ne 16, 3) := by decide +kernel
theorem dX3_next_25 : decode cX3_next 25 = .ok (.aload_n 0, 1) := by decide +kernel
theorem dX3_next_26 : decode cX3_next 26 = .ok (.dup, 1) := by decide +kernel
theorem dX3_next_27 : decode cX3_next 27 = .ok (.getfield 19, 3) := by decide +kernel
theorem dX3_next_30 : decode cX3_next 30 = .ok (.iconst 1, 1) := by decide +kernel
theorem dX3_next_31 : decode cX3_next 31 = .ok (.iadd, 1) := by decide +kernel
theorem dX3_next_32 : decode cX3_next 32 = .ok (.putfield 19, 3) := by decide +kernel
theorem dX3_next_35 : decode cX3_next 35 = .ok (.goto (-35), 3) := by decide +kernel
theorem dX3_next_38 : decode cX3_next 38 = .ok (.aload_n 0, 1) := by decide +kernel
theorem dX3_next_39 : decode cX3_next 39 = .ok (.getfield 19, 3) := by decide +kernel
theorem dX3_next_42 : decode cX3_next 42 = .ok (.aload_n 0, 1) := by decide +kernel
theorem dX3_next_43 : decode cX3_next 43 = .ok (.getfield 15, 3) := by decide +kernel
theorem dX3_next_46 : decode cX3_next 46 = .ok (.if_icmp .ge 15, 3) := by decide +kernel
theorem dX3_next_49 : decode cX3_next 49 = .ok (.aload_n 0, 1) := by decide +kernel
theorem dX3_next_50 : decode cX3_next 50 = .ok (.getfield 9, 3) := by decide +kernel
theorem dX3_next_53 : decode cX3_next 53 = .ok (.aload_n 0, 1) := by decide +kernel
theorem dX3_next_54 : decode cX3_next 54 = .ok (.getfield 19, 3) := by decide +kernel
theorem dX3_next_57 : decode cX3_next 57 = .ok (.caload, 1) := by decide +kernel
theorem dX3_next_58 : decode cX3_next 58 = .ok (.goto 4, 3) := by decide +kernel
theorem dX3_next_61 : decode cX3_next 61 = .ok (.iconst (-1), 1) := by decide +kernel
theorem dX3_next_62 : decode cX3_next 62 = .ok (.ireturn, 1) := by decide +kernel
theorem dX3_takes_0 : decode cX3_takes 0 = .ok (.aload_n 0, 1) := by decide +kernel
theorem dX3_takes_1 : decode cX3_takes 1 = .ok (.invokevirtual 63, 3) := by decide +kernel
theorem dX3_takes_4 : decode cX3_takes 4 = .ok (.iload_n 1, 1) := by decide +kernel
theorem dX3_takes_5 : decode cX3_takes 5 = .ok (.if_icmp .eq 5, 3) := by decide +kernel
theorem dX3_takes_8 : decode cX3_takes 8 = .ok (.iconst 0, 1) := by decide +kernel
theorem dX3_takes_9 : decode cX3_takes 9 = .ok (.ireturn, 1) := by decide +kernel
theorem dX3_takes_10 : decode cX3_takes 10 = .ok (.aload_n 0, 1) := by decide +kernel
theorem dX3_takes_11 : decode cX3_takes 11 = .ok (.dup, 1) := by decide +kernel
theorem dX3_takes_12 : decode cX3_takes 12 = .ok (.getfield 19, 3) := by decide +kernel
theorem dX3_takes_15 : decode cX3_takes 15 = .ok (.iconst 1, 1) := by decide +kernel
theorem dX3_takes_16 : decode cX3_takes 16 = .ok (.iadd, 1) := by decide +kernel
theorem dX3_takes_17 : decode cX3_takes 17 = .ok (.putfield 19, 3) := by decide +kernel
theorem dX3_takes_20 : decode cX3_takes 20 = .ok (.iconst 1, 1) := by decide +kernel
theorem dX3_takes_21 : decode cX3_takes 21 = .ok (.ireturn, 1) := by decide +kernel
theorem dX3_takeOneOf_0 : decode cX3_takeOneOf 0 = .ok (.aload_n 0, 1) := by decide +kernel
theorem dX3_takeOneOf_1 : decode cX3_takeOneOf 1 = .ok (.invokevirtual 63, 3) := by decide +kernel
theorem dX3_takeOneOf_4 : decode cX3_takeOneOf 4 = .ok (.istore_n 2, 1) := by decide +kernel
theorem dX3_takeOneOf_5 : decode cX3_takeOneOf 5 = .ok (.iload_n 2, 1) := by decide +kernel
theorem dX3_takeOneOf_6 : decode cX3_takeOneOf 6 = .ok (.iconst (-1), 1) := by decide +kernel
theorem dX3_takeOneOf_7 : decode cX3_takeOneOf 7 = .ok (.if_icmp .ne 7, 3) := by decide +kernel
theorem dX3_takeOneOf_10 : decode cX3_takeOneOf 10 = .ok (.iconst (-1), 1) := by decide +kernel
theorem dX3_takeOneOf_11 : decode cX3_takeOneOf 11 = .ok (.goto 9, 3) := by decide +kernel
theorem dX3_takeOneOf_14 : decode cX3_takeOneOf 14 = .ok (.aload_n 1, 1) := by decide +kernel
theorem dX3_takeOneOf_15 : decode cX3_takeOneOf 15 = .ok (.iload_n 2, 1) := by decide +kernel
theorem dX3_takeOneOf_16 : decode cX3_takeOneOf 16 = .ok (.i2c, 1) := by decide +kernel
theorem dX3_takeOneOf_17 : decode cX3_takeOneOf 17 = .ok (.invokevirtual 93, 3) := by decide +kernel
theorem dX3_takeOneOf_20 : decode cX3_takeOneOf 20 = .ok (.istore_n 3, 1) := by decide +kernel
theorem dX3_takeOneOf_21 : decode cX3_takeOneOf 21 = .ok (.iload_n 3, 1) := by decide +kernel
theorem dX3_takeOneOf_22 : decode cX3_takeOneOf 22 = .ok (.ifCond .lt 13, 3) := by decide +kernel
theorem dX3_takeOneOf_25 : decode cX3_takeOneOf 25 = .ok (.aload_n 0, 1) := by decide +kernel
theorem dX3_takeOneOf_26 : decode cX3_takeOneOf 26 = .ok (.dup, 1) := by decide +kernel
theorem dX3_takeOneOf_27 : decode cX3_takeOneOf 27 = .ok (.getfield 19, 3) := by decide +kernel
theorem dX3_takeOneOf_30 : decode cX3_takeOneOf 30 = .ok (.iconst 1, 1) := by decide +kernel
theorem dX3_takeOneOf_31 : decode cX3_takeOneOf 31 = .ok (.iadd, 1) := by decide +kernel
theorem dX3_takeOneOf_32 : decode cX3_takeOneOf 32 = .ok (.putfield 19, 3) := by decide +kernel
theorem dX3_takeOneOf_35 : decode cX3_takeOneOf 35 = .ok (.iload_n 3, 1) := by decide +kernel
theorem dX3_takeOneOf_36 : decode cX3_takeOneOf 36 = .ok (.ireturn, 1) := by decide +kernel
theorem dX3_takeNumber_0 : decode cX3_takeNumber 0 = .ok (.aload_n 0, 1) := by decide +kernel
theorem dX3_takeNumber_1 : decode cX3_takeNumber 1 = .ok (.ldc 99, 2) := by decide +kernel
theorem dX3_takeNumber_3 : decode cX3_takeNumber 3 = .ok (.invokevirtual 56, 3) := by decide +kernel
theorem dX3_takeNumber_6 : decode cX3_takeNumber 6 = .ok (.istore_n 1, 1) := by decide +kernel
theorem dX3_takeNumber_7 : decode cX3_takeNumber 7 = .ok (.iload_n 1, 1) := by decide +kernel
theorem dX3_takeNumber_8 : decode cX3_takeNumber 8 = .ok (.ifCond .lt 70, 3) := by decide +kernel
theorem dX3_takeNumber_11 : decode cX3_takeNumber 11 = .ok (.aload_n 0, 1) := by decide +kernel
theorem dX3_takeNumber_12 : decode cX3_takeNumber 12 = .ok (.getfield 19, 3) := by decide +kernel
theorem dX3_takeNumber_15 : decode cX3_takeNumber 15 = .ok (.aload_n 0, 1) := by decide +kernel
theorem dX3_takeNumber_16 : decode cX3_takeNumber 16 = .ok (.getfield 15, 3) := by decide +kernel
theorem dX3_takeNumber_19 : decode cX3_takeNumber 19 = .ok (.if_icmp .ge 59, 3) := by decide +kernel
theorem dX3_takeNumber_22 : decode cX3_takeNumber 22 = .ok (.aload_n 0, 1) := by decide +kernel
theorem dX3_takeNumber_23 : decode cX3_takeNumber 23 = .ok (.getfield 9, 3) := by decide +kernel
theorem dX3_takeNumber_26 : decode cX3_takeNumber 26 = .ok (.aload_n 0, 1) := by decide +kernel
theorem dX3_takeNumber_27 : decode cX3_takeNumber 27 = .ok (.getfield 19, 3) := by decide +kernel
theorem dX3_takeNumber_30 : decode cX3_takeNumber 30 = .ok (.caload, 1) := by decide +kernel
theorem dX3_takeNumber_31 : decode cX3_takeNumber 31 = .ok (.bipush 48, 2) := by decide +kernel
theorem dX3_takeNumber_33 : decode cX3_takeNumber 33 = .ok (.if_icmp .lt 45, 3) := by decide +kernel
theorem dX3_takeNumber_36 : decode cX3_takeNumber 36 = .ok (.aload_n 0, 1) := by decide +kernel
theorem dX3_takeNumber_37 : decode cX3_takeNumber 37 = .ok (.getfield 9, 3) := by decide +kernel
theorem dX3_takeNumber_40 : decode cX3_takeNumber 40 = .ok (.aload_n 0, 1) := by decide +kernel
theorem dX3_takeNumber_41 : decode cX3_takeNumber 41 = .ok (.getfield 19, 3) := by decide +kernel
theorem dX3_takeNumber_44 : decode cX3_takeNumber 44 = .ok (.caload, 1) := by decide +kernel
theorem dX3_takeNumber_45 : decode cX3_takeNumber 45 = .ok (.bipush 57, 2) := by decide +kernel
theorem dX3_takeNumber_47 : decode cX3_takeNumber 47 = .ok (.if_icmp .gt 31, 3) := by decide +kernel
theorem dX3_takeNumber_50 : decode cX3_takeNumber 50 = .ok (.bipush 10, 2) := by decide +kernel
theorem dX3_takeNumber_52 : decode cX3_takeNumber 52 = .ok (.iload_n 1, 1) := by decide +kernel
theorem dX3_takeNumber_53 : decode cX3_takeNumber 53 = .ok (.imul, 1) := by decide +kernel
theorem dX3_takeNumber_54 : decode cX3_takeNumber 54 = .ok (.aload_n 0, 1) := by decide +kernel
theorem dX3_takeNumber_55 : decode cX3_takeNumber 55 = .ok (.getfield 9, 3) := by decide +kernel
theorem dX3_takeNumber_58 : decode cX3_takeNumber 58 = .ok (.aload_n 0, 1) := by decide +kernel
theorem dX3_takeNumber_59 : decode cX3_takeNumber 59 = .ok (.getfield 19, 3) := by decide +kernel
theorem dX3_takeNumber_62 : decode cX3_takeNumber 62 = .ok (.caload, 1) := by decide +kernel
theorem dX3_takeNumber_63 : decode cX3_takeNumber 63 = .ok (.iadd, 1) := by decide +kernel
theorem dX3_takeNumber_64 : decode cX3_takeNumber 64 = .ok (.bipush 48, 2) := by decide +kernel
theorem dX3_takeNumber_66 : decode cX3_takeNumber 66 = .ok (.isub, 1) := by decide +kernel
theorem dX3_takeNumber_67 : decode cX3_takeNumber 67 = .ok (.istore_n 1, 1) := by decide +kernel
theorem dX3_takeNumber_68 : decode cX3_takeNumber 68 = .ok (.aload_n 0, 1) := by decide +kernel
theorem dX3_takeNumber_69 : decode cX3_takeNumber 69 = .ok (.dup, 1) := by decide +kernel
theorem dX3_takeNumber_70 : decode cX3_takeNumber 70 = .ok (.getfield 19, 3) := by decide +kernel
theorem dX3_takeNumber_73 : decode cX3_takeNumber 73 = .ok (.iconst 1, 1) := by decide +kernel
theorem dX3_takeNumber_74 : decode cX3_takeNumber 74 = .ok (.iadd, 1) := by decide +kernel
theorem dX3_takeNumber_75 : decode cX3_takeNumber 75 = .ok (.putfield 19, 3) := by decide +kernel
theorem dX3_takeNumber_78 : decode cX3_takeNumber 78 = .ok (.iload_n 1, 1) := by decide +kernel
theorem dX3_takeNumber_79 : decode cX3_takeNumber 79 = .ok (.ireturn, 1) := by decide +kernel
theorem dX4_init_0 : decode cX4_init 0 = .ok (.aload_n 0, 1) := by decide +kernel
theorem dX4_init_1 : decode cX4_init 1 = .ok (.invokespecial 3, 3) := by decide +kernel
theorem dX4_init_4 : decode cX4_init 4 = .ok (.aload_n 0, 1) := by decide +kernel
theorem dX4_init_5 : decode cX4_init 5 = .ok (.iconst 0, 1) := by decide +kernel
theorem dX4_init_6 : decode cX4_init 6 = .ok (.putfield 9, 3) := by decide +kernel
theorem dX4_init_9 : decode cX4_init 9 = .ok (.aload_n 0, 1) := by decide +kernel
theorem dX4_init_10 : decode cX4_init 10 = .ok (.iconst 2, 1) := by decide +kernel
theorem dX4_init_11 : decode cX4_init 11 = .ok (.putfield 15, 3) := by decide +kernel
theorem dX4_init_14 : decode cX4_init 14 = .ok (.aload_n 0, 1) := by decide +kernel
theorem dX4_init_15 : decode cX4_init 15 = .ok (.bipush 6, 2) := by decide +kernel
theorem dX4_init_17 : decode cX4_init 17 = .ok (.newarray .int, 2) := by decide +kernel
theorem dX4_init_19 : decode cX4_init 19 = .ok (.putfield 18, 3) := by decide +kernel
theorem dX4_init_22 : decode cX4_init 22 = .ok (.aload_n 0, 1) := by decide +kernel
theorem dX4_init_23 : decode cX4_init 23 = .ok (.bipush 6, 2) := by decide +kernel
theorem dX4_init_25 : decode cX4_init 25 = .ok (.newarray .int, 2) := by decide +kernel
theorem dX4_init_27 : decode cX4_init 27 = .ok (.putfield 22, 3) := by decide +kernel
theorem dX4_init_30 : decode cX4_init 30 = .ok (.aload_n 0, 1) := by decide +kernel
theorem dX4_init_31 : decode cX4_init 31 = .ok (.new 25, 3) := by decide +kernel
theorem dX4_init_34 : decode cX4_init 34 = .ok (.dup, 1) := by decide +kernel
theorem dX4_init_35 : decode cX4_init 35 = .ok (.invokespecial 27, 3) := by decide +kernel
theorem dX4_init_38 : decode cX4_init 38 = .ok (.putfield 28, 3) := by decide +kernel
theorem dX4_init_41 : decode cX4_init 41 = .ok (.return_, 1) := by decide +kernel
theorem dX4_copyTown_0 : decode cX4_copyTown 0 = .ok (.aload_n 0, 1) := by decide +kernel
theorem dX4_copyTown_1 : decode cX4_copyTown 1 = .ok (.aload_n 1, 1) := by decide +kernel
theorem dX4_copyTown_2 : decode cX4_copyTown 2 = .ok (.getfield 9, 3) := by decide +kernel
theorem dX4_copyTown_5 : decode cX4_copyTown 5 = .ok (.putfield 9, 3) := by decide +kernel
theorem dX4_copyTown_8 : decode cX4_copyTown 8 = .ok (.aload_n 0, 1) := by decide +kernel
theorem dX4_copyTown_9 : decode cX4_copyTown 9 = .ok (.aload_n 1, 1) := by decide +kernel
theorem dX4_copyTown_10 : decode cX4_copyTown 10 = .ok (.getfield 15, 3) := by decide +kernel
theorem dX4_copyTown_13 : decode cX4_copyTown 13 = .ok (.putfield 15, 3) := by decide +kernel
theorem dX4_copyTown_16 : decode cX4_copyTown 16 = .ok (.aload_n 1, 1) := by decide +kernel
theorem dX4_copyTown_17 : decode cX4_copyTown 17 = .ok (.getfield 18, 3) := by decide +kernel
theorem dX4_copyTown_20 : decode cX4_copyTown 20 = .ok (.iconst 0, 1) := by decide +kernel
theorem dX4_copyTown_21 : decode cX4_copyTown 21 = .ok (.aload_n 0, 1) := by decide +kernel
theorem dX4_copyTown_22 : decode cX4_copyTown 22 = .ok (.getfield 18, 3) := by decide +kernel
theorem dX4_copyTown_25 : decode cX4_copyTown 25 = .ok (.iconst 0, 1) := by decide +kernel
theorem dX4_copyTown_26 : decode cX4_copyTown 26 = .ok (.bipush 6, 2) := by decide +kernel
theorem dX4_copyTown_28 : decode cX4_copyTown 28 = .ok (.invokestatic 32, 3) := by decide +kernel
theorem dX4_copyTown_31 : decode cX4_copyTown 31 = .ok (.aload_n 1, 1) := by decide +kernel
theorem dX4_copyTown_32 : decode cX4_copyTown 32 = .ok (.getfield 22, 3) := by decide +kernel
theorem dX4_copyTown_35 : decode cX4_copyTown 35 = .ok (.iconst 0, 1) := by decide +kernel
theorem dX4_copyTown_36 : decode cX4_copyTown 36 = .ok (.aload_n 0, 1) := by decide +kernel
theorem dX4_copyTown_37 : decode cX4_copyTown 37 = .ok (.getfield 22, 3) := by decide +kernel
theorem dX4_copyTown_40 : decode cX4_copyTown 40 = .ok (.iconst 0, 1) := by decide +kernel
theorem dX4_copyTown_41 : decode cX4_copyTown 41 = .ok (.bipush 6, 2) := by decide +kernel
theorem dX4_copyTown_43 : decode cX4_copyTown 43 = .ok (.invokestatic 32, 3) := by decide +kernel
theorem dX4_copyTown_46 : decode cX4_copyTown 46 = .ok (.aload_n 0, 1) := by decide +kernel
theorem dX4_copyTown_47 : decode cX4_copyTown 47 = .ok (.getfield 28, 3) := by decide +kernel
theorem dX4_copyTown_50 : decode cX4_copyTown 50 = .ok (.aload_n 1, 1) := by decide +kernel
theorem dX4_copyTown_51 : decode cX4_copyTown 51 = .ok (.getfield 28, 3) := by decide +kernel
theorem dX4_copyTown_54 : decode cX4_copyTown 54 = .ok (.invokevirtual 38, 3) := by decide +kernel
theorem dX4_copyTown_57 : decode cX4_copyTown 57 = .ok (.return_, 1) := by decide +kernel
theorem dX4_isOne_0 : decode cX4_isOne 0 = .ok (.iload_n 1, 1) := by decide +kernel
theorem dX4_isOne_1 : decode cX4_isOne 1 = .ok (.ifCond .lt 15, 3) := by decide +kernel
theorem dX4_isOne_4 : decode cX4_isOne 4 = .ok (.iload_n 1, 1) := by decide +kernel
theorem dX4_isOne_5 : decode cX4_isOne 5 = .ok (.aload_n 0, 1) := by decide +kernel
theorem dX4_isOne_6 : decode cX4_isOne 6 = .ok (.getfield 9, 3) := by decide +kernel
theorem dX4_isOne_9 : decode cX4_isOne 9 = .ok (.if_icmp .ge 7, 3) := by decide +kernel
theorem dX4_isOne_12 : decode cX4_isOne 12 = .ok (.iconst 1, 1) := by decide +kernel
theorem dX4_isOne_13 : decode cX4_isOne 13 = .ok (.goto 4, 3) := by decide +kernel
theorem dX4_isOne_16 : decode cX4_isOne 16 = .ok (.iconst 0, 1) := by decide +kernel
theorem dX4_isOne_17 : decode cX4_isOne 17 = .ok (.ireturn, 1) := by decide +kernel
theorem dX4_areTwo_0 : decode cX4_areTwo 0 = .ok (.aload_n 0, 1) := by decide +kernel
theorem dX4_areTwo_1 : decode cX4_areTwo 1 = .ok (.iload_n 1, 1) := by decide +kernel
theorem dX4_areTwo_2 : decode cX4_areTwo 2 = .ok (.invokevirtual 42, 3) := by decide +kernel
theorem dX4_areTwo_5 : decode cX4_areTwo 5 = .ok (.ifCond .eq 20, 3) := by decide +kernel
theorem dX4_areTwo_8 : decode cX4_areTwo 8 = .ok (.aload_n 0, 1) := by decide +kernel
theorem dX4_areTwo_9 : decode cX4_areTwo 9 = .ok (.iload_n 2, 1) := by decide +kernel
theorem dX4_areTwo_10 : decode cX4_areTwo 10 = .ok (.invokevirtual 42, 3) := by decide +kernel
theorem dX4_areTwo_13 : decode cX4_areTwo 13 = .ok (.ifCond .eq 12, 3) := by decide +kernel
theorem dX4_areTwo_16 : decode cX4_areTwo 16 = .ok (.iload_n 1, 1) := by decide +kernel
theorem dX4_areTwo_17 : decode cX4_areTwo 17 = .ok (.iload_n 2, 1) := by decide +kernel
theorem dX4_areTwo_18 : decode cX4_areTwo 18 = .ok (.if_icmp .eq 7, 3) := by decide +kernel
theorem dX4_areTwo_21 : decode cX4_areTwo 21 = .ok (.iconst 1, 1) := by decide +kernel
theorem dX4_areTwo_22 : decode cX4_areTwo 22 = .ok (.goto 4, 3) := by decide +kernel
theorem dX4_areTwo_25 : decode cX4_areTwo 25 = .ok (.iconst 0, 1) := by decide +kernel
theorem dX4_areTwo_26 : decode cX4_areTwo 26 = .ok (.ireturn, 1) := by decide +kernel
theorem dX4_settle_0 : decode cX4_settle 0 = .ok (.aload_n 0, 1) := by decide +kernel
theorem dX4_settle_1 : decode cX4_settle 1 = .ok (.getfield 9, 3) := by decide +kernel
theorem dX4_settle_4 : decode cX4_settle 4 = .ok (.bipush 6, 2) := by decide +kernel
theorem dX4_settle_6 : decode cX4_settle 6 = .ok (.if_icmp .lt 6, 3) := by decide +kernel
theorem dX4_settle_9 : decode cX4_settle 9 = .ok (.bipush (-3), 2) := by decide +kernel
theorem dX4_settle_11 : decode cX4_settle 11 = .ok (.ireturn, 1) := by decide +kernel
theorem dX4_settle_12 : decode cX4_settle 12 = .ok (.aload_n 0, 1) := by decide +kernel
theorem dX4_settle_13 : decode cX4_settle 13 = .ok (.getfield 9, 3) := by decide +kernel
theorem dX4_settle_16 : decode cX4_settle 16 = .ok (.istore_n 3, 1) := by decide +kernel
theorem dX4_settle_17 : decode cX4_settle 17 = .ok (.aload_n 0, 1) := by decide +kernel
theorem dX4_settle_18 : decode cX4_settle 18 = .ok (.dup, 1) := by decide +kernel
theorem dX4_settle_19 : decode cX4_settle 19 = .ok (.getfield 9, 3) := by decide +kernel
theorem dX4_settle_22 : decode cX4_settle 22 = .ok (.iconst 1, 1) := by decide +kernel
theorem dX4_settle_23 : decode cX4_settle 23 = .ok (.iadd, 1) := by decide +kernel
theorem dX4_settle_24 : decode cX4_settle 24 = .ok (.putfield 9, 3) := by decide +kernel
theorem dX4_settle_27 : decode cX4_settle 27 = .ok (.aload_n 0, 1) := by decide +kernel
theorem dX4_settle_28 : decode cX4_settle 28 = .ok (.getfield 18, 3) := by decide +kernel
theorem dX4_settle_31 : decode cX4_settle 31 = .ok (.iload_n 3, 1) := by decide +kernel
theorem dX4_settle_32 : decode cX4_settle 32 = .ok (.iload_n 1, 1) := by decide +kernel
theorem dX4_settle_33 : decode cX4_settle 33 = .ok (.iastore, 1) := by decide +kernel
theorem dX4_settle_34 : decode cX4_settle 34 = .ok (.aload_n 0, 1) := by decide +kernel
theorem dX4_settle_35 : decode cX4_settle 35 = .ok (.getfield 22, 3) := by decide +kernel
theorem dX4_settle_38 : decode cX4_settle 38 = .ok (.iload_n 3, 1) := by decide +kernel
theorem dX4_settle_39 : decode cX4_settle 39 = .ok (.iload_n 3, 1) := by decide +kernel
theorem dX4_settle_40 : decode cX4_settle 40 = .ok (.iastore, 1) := by decide +kernel
theorem dX4_settle_41 : decode cX4_settle 41 = .ok (.aload_n 0, 1) := by decide +kernel
theorem dX4_settle_42 : decode cX4_settle 42 = .ok (.getfield 28, 3) := by decide +kernel
theorem dX4_settle_45 : decode cX4_settle 45 = .ok (.getfield 46, 3) := by decide +kernel
theorem dX4_settle_48 : decode cX4_settle 48 = .ok (.iload_n 3, 1) := by decide +kernel
theorem dX4_settle_49 : decode cX4_settle 49 = .ok (.iload_n 2, 1) := by decide +kernel
theorem dX4_settle_50 : decode cX4_settle 50 = .ok (.iastore, 1) := by decide +kernel
theorem dX4_settle_51 : decode cX4_settle 51 = .ok (.iconst 0, 1) := by decide +kernel
theorem dX4_settle_52 : decode cX4_settle 52 = .ok (.istore 4, 2) := by decide +kernel
theorem dX4_settle_54 : decode cX4_settle 54 = .ok (.iload 4, 2) := by decide +kernel
theorem dX4_settle_56 : decode cX4_settle 56 = .ok (.bipush 12, 2) := by decide +kernel
theorem dX4_settle_58 : decode cX4_settle 58 = .ok (.if_icmp .ge 20, 3) := by decide +kernel
theorem dX4_settle_61 : decode cX4_settle 61 = .ok (.aload_n 0, 1) := by decide +kernel
theorem dX4_settle_62 : decode cX4_settle 62 = .ok (.getfield 28, 3) := by decide +kernel
theorem dX4_settle_65 : decode cX4_settle 65 = .ok (.iload_n 3, 1) := by decide +kernel
theorem dX4_settle_66 : decode cX4_settle 66 = .ok (.iload 4, 2) := by decide +kernel
theorem dX4_settle_68 : decode cX4_settle 68 = .ok (.iconst 1, 1) := by decide +kernel
theorem dX4_settle_69 : decode cX4_settle 69 = .ok (.invokevirtual 49, 3) := by decide +kernel
theorem dX4_settle_72 : decode cX4_settle 72 = .ok (.iinc 4 1, 3) := by decide +kernel
theorem dX4_settle_75 : decode cX4_settle 75 = .ok (.goto (-21), 3) := by decide +kernel
theorem dX4_settle_78 : decode cX4_settle 78 = .ok (.iload_n 3, 1) := by decide +kernel
theorem dX4_settle_79 : decode cX4_settle 79 = .ok (.ireturn, 1) := by decide +kernel
theorem dX4_lovedSet_0 : decode cX4_lovedSet 0 = .ok (.iload_n 2, 1) := by decide +kernel
theorem dX4_lovedSet_1 : decode cX4_lovedSet 1 = .ok (.iload_n 1, 1) := by decide +kernel
theorem dX4_lovedSet_2 : decode cX4_lovedSet 2 = .ok (.if_icmp .ne 7, 3) := by decide +kernel
theorem dX4_lovedSet_5 : decode cX4_lovedSet 5 = .ok (.iconst 0, 1) := by decide +kernel
theorem dX4_lovedSet_6 : decode cX4_lovedSet 6 = .ok (.goto 12, 3) := by decide +kernel
theorem dX4_lovedSet_9 : decode cX4_lovedSet 9 = .ok (.aload_n 0, 1) := by decide +kernel
theorem dX4_lovedSet_10 : decode cX4_lovedSet 10 = .ok (.getfield 28, 3) := by decide +kernel
theorem dX4_lovedSet_13 : decode cX4_lovedSet 13 = .ok (.getfield 53, 3) := by decide +kernel
theorem dX4_lovedSet_16 : decode cX4_lovedSet 16 = .ok (.iload_n 2, 1) := by decide +kernel
theorem dX4_lovedSet_17 : decode cX4_lovedSet 17 = .ok (.iaload, 1) := by decide +kernel
theorem dX4_lovedSet_18 : decode cX4_lovedSet 18 = .ok (.ireturn, 1) := by decide +kernel
theorem dX4_worthOfHalf_0 : decode cX4_worthOfHalf 0 = .ok (.aload_n 0, 1) := by decide +kernel
theorem dX4_worthOfHalf_1 : decode cX4_worthOfHalf 1 = .ok (.iload_n 1, 1) := by decide +kernel
theorem dX4_worthOfHalf_2 : decode cX4_worthOfHalf 2 = .ok (.aload_n 0, 1) := by decide +kernel
theorem dX4_worthOfHalf_3 : decode cX4_worthOfHalf 3 = .ok (.getfield 22, 3) := by decide +kernel
theorem dX4_worthOfHalf_6 : decode cX4_worthOfHalf 6 = .ok (.iload_n 1, 1) := by decide +kernel
theorem dX4_worthOfHalf_7 : decode cX4_worthOfHalf 7 = .ok (.iaload, 1) := by decide +kernel
theorem dX4_worthOfHalf_8 : decode cX4_worthOfHalf 8 = .ok (.invokevirtual 56, 3) := by decide +kernel
theorem dX4_worthOfHalf_11 : decode cX4_worthOfHalf 11 = .ok (.istore_n 3, 1) := by decide +kernel
theorem dX4_worthOfHalf_12 : decode cX4_worthOfHalf 12 = .ok (.aload_n 0, 1) := by decide +kernel
theorem dX4_worthOfHalf_13 : decode cX4_worthOfHalf 13 = .ok (.getfield 18, 3) := by decide +kernel
theorem dX4_worthOfHalf_16 : decode cX4_worthOfHalf 16 = .ok (.iload_n 1, 1) := by decide +kernel
theorem dX4_worthOfHalf_17 : decode cX4_worthOfHalf 17 = .ok (.iaload, 1) := by decide +kernel
theorem dX4_worthOfHalf_18 : decode cX4_worthOfHalf 18 = .ok (.iload_n 2, 1) := by decide +kernel
theorem dX4_worthOfHalf_19 : decode cX4_worthOfHalf 19 = .ok (.aload_n 0, 1) := by decide +kernel
theorem dX4_worthOfHalf_20 : decode cX4_worthOfHalf 20 = .ok (.getfield 28, 3) := by decide +kernel
theorem dX4_worthOfHalf_23 : decode cX4_worthOfHalf 23 = .ok (.getfield 53, 3) := by decide +kernel
theorem dX4_worthOfHalf_26 : decode cX4_worthOfHalf 26 = .ok (.iload_n 1, 1) := by decide +kernel
theorem dX4_worthOfHalf_27 : decode cX4_worthOfHalf 27 = .ok (.iaload, 1) := by decide +kernel
theorem dX4_worthOfHalf_28 : decode cX4_worthOfHalf 28 = .ok (.iload_n 3, 1) := by decide +kernel
theorem dX4_worthOfHalf_29 : decode cX4_worthOfHalf 29 = .ok (.aload_n 0, 1) := by decide +kernel
theorem dX4_worthOfHalf_30 : decode cX4_worthOfHalf 30 = .ok (.getfield 28, 3) := by decide +kernel
theorem dX4_worthOfHalf_33 : decode cX4_worthOfHalf 33 = .ok (.getfield 60, 3) := by decide +kernel
theorem dX4_worthOfHalf_36 : decode cX4_worthOfHalf 36 = .ok (.aload_n 0, 1) := by decide +kernel
theorem dX4_worthOfHalf_37 : decode cX4_worthOfHalf 37 = .ok (.getfield 28, 3) := by decide +kernel
theorem dX4_worthOfHalf_40 : decode cX4_worthOfHalf 40 = .ok (.getfield 63, 3) := by decide +kernel
theorem dX4_worthOfHalf_43 : decode cX4_worthOfHalf 43 = .ok (.invokestatic 66, 3) := by decide +kernel
theorem dX4_worthOfHalf_46 : decode cX4_worthOfHalf 46 = .ok (.ireturn, 1) := by decide +kernel
theorem dX4_worthOf_0 : decode cX4_worthOf 0 = .ok (.aload_n 0, 1) := by decide +kernel
theorem dX4_worthOf_1 : decode cX4_worthOf 1 = .ok (.iload_n 1, 1) := by decide +kernel
theorem dX4_worthOf_2 : decode cX4_worthOf 2 = .ok (.aload_n 0, 1) := by decide +kernel
theorem dX4_worthOf_3 : decode cX4_worthOf 3 = .ok (.getfield 28, 3) := by decide +kernel
theorem dX4_worthOf_6 : decode cX4_worthOf 6 = .ok (.getfield 53, 3) := by decide +kernel
theorem dX4_worthOf_9 : decode cX4_worthOf 9 = .ok (.iload_n 1, 1) := by decide +kernel
theorem dX4_worthOf_10 : decode cX4_worthOf 10 = .ok (.iaload, 1) := by decide +kernel
theorem dX4_worthOf_11 : decode cX4_worthOf 11 = .ok (.aload_n 0, 1) := by decide +kernel
theorem dX4_worthOf_12 : decode cX4_worthOf 12 = .ok (.getfield 28, 3) := by decide +kernel
theorem dX4_worthOf_15 : decode cX4_worthOf 15 = .ok (.getfield 60, 3) := by decide +kernel
theorem dX4_worthOf_18 : decode cX4_worthOf 18 = .ok (.invokevirtual 70, 3) := by decide +kernel
theorem dX4_worthOf_21 : decode cX4_worthOf 21 = .ok (.ireturn, 1) := by decide +kernel
theorem dX4_worthOfSet_0 : decode cX4_worthOfSet 0 = .ok (.aload_n 0, 1) := by decide +kernel
theorem dX4_worthOfSet_1 : decode cX4_worthOfSet 1 = .ok (.iload_n 1, 1) := by decide +kernel
theorem dX4_worthOfSet_2 : decode cX4_worthOfSet 2 = .ok (.iload_n 2, 1) := by decide +kernel
theorem dX4_worthOfSet_3 : decode cX4_worthOfSet 3 = .ok (.aload_n 0, 1) := by decide +kernel
theorem dX4_worthOfSet_4 : decode cX4_worthOfSet 4 = .ok (.getfield 28, 3) := by decide +kernel
theorem dX4_worthOfSet_7 : decode cX4_worthOfSet 7 = .ok (.getfield 60, 3) := by decide +kernel
theorem dX4_worthOfSet_10 : decode cX4_worthOfSet 10 = .ok (.invokevirtual 70, 3) := by decide +kernel
theorem dX4_worthOfSet_13 : decode cX4_worthOfSet 13 = .ok (.ireturn, 1) := by decide +kernel
theorem dX4_worthInRain_0 : decode cX4_worthInRain 0 = .ok (.aload_n 0, 1) := by decide +kernel
theorem dX4_worthInRain_1 : decode cX4_worthInRain 1 = .ok (.iload_n 1, 1) := by decide +kernel
theorem dX4_worthInRain_2 : decode cX4_worthInRain 2 = .ok (.aload_n 0, 1) := by decide +kernel
theorem dX4_worthInRain_3 : decode cX4_worthInRain 3 = .ok (.getfield 22, 3) := by decide +kernel
theorem dX4_worthInRain_6 : decode cX4_worthInRain 6 = .ok (.iload_n 1, 1) := by decide +kernel
theorem dX4_worthInRain_7 : decode cX4_worthInRain 7 = .ok (.iaload, 1) := by decide +kernel
theorem dX4_worthInRain_8 : decode cX4_worthInRain 8 = .ok (.invokevirtual 56, 3) := by decide +kernel
theorem dX4_worthInRain_11 : decode cX4_worthInRain 11 = .ok (.istore 4, 2) := by decide +kernel
theorem dX4_worthInRain_13 : decode cX4_worthInRain 13 = .ok (.iconst 0, 1) := by decide +kernel
theorem dX4_worthInRain_14 : decode cX4_worthInRain 14 = .ok (.istore 5, 2) := by decide +kernel
theorem dX4_worthInRain_16 : decode cX4_worthInRain 16 = .ok (.iconst 0, 1) := by decide +kernel
theorem dX4_worthInRain_17 : decode cX4_worthInRain 17 = .ok (.istore 6, 2) := by decide +kernel
theorem dX4_worthInRain_19 : decode cX4_worthInRain 19 = .ok (.iload 6, 2) := by decide +kernel
theorem dX4_worthInRain_21 : decode cX4_worthInRain 21 = .ok (.bipush 12, 2) := by decide +kernel
theorem dX4_worthInRain_23 : decode cX4_worthInRain 23 = .ok (.if_icmp .ge 36, 3) := by decide +kernel
theorem dX4_worthInRain_26 : decode cX4_worthInRain 26 = .ok (.iload 5, 2) := by decide +kernel
theorem dX4_worthInRain_28 : decode cX4_worthInRain 28 = .ok (.aload_n 0, 1) := by decide +kernel
theorem dX4_worthInRain_29 : decode cX4_worthInRain 29 = .ok (.getfield 18, 3) := by decide +kernel
theorem dX4_worthInRain_32 : decode cX4_worthInRain 32 = .ok (.iload_n 1, 1) := by decide +kernel
theorem dX4_worthInRain_33 : decode cX4_worthInRain 33 = .ok (.iaload, 1) := by decide +kernel
theorem dX4_worthInRain_34 : decode cX4_worthInRain 34 = .ok (.iload 6, 2) := by decide +kernel
theorem dX4_worthInRain_36 : decode cX4_worthInRain 36 = .ok (.iload_n 2, 1) := by decide +kernel
theorem dX4_worthInRain_37 : decode cX4_worthInRain 37 = .ok (.iload 4, 2) := by decide +kernel
theorem dX4_worthInRain_39 : decode cX4_worthInRain 39 = .ok (.iload_n 3, 1) := by decide +kernel
theorem dX4_worthInRain_40 : decode cX4_worthInRain 40 = .ok (.aload_n 0, 1) := by decide +kernel
theorem dX4_worthInRain_41 : decode cX4_worthInRain 41 = .ok (.getfield 28, 3) := by decide +kernel
theorem dX4_worthInRain_44 : decode cX4_worthInRain 44 = .ok (.getfield 63, 3) := by decide +kernel
theorem dX4_worthInRain_47 : decode cX4_worthInRain 47 = .ok (.invokestatic 66, 3) := by decide +kernel
theorem dX4_worthInRain_50 : decode cX4_worthInRain 50 = .ok (.iadd, 1) := by decide +kernel
theorem dX4_worthInRain_51 : decode cX4_worthInRain 51 = .ok (.istore 5, 2) := by decide +kernel
theorem dX4_worthInRain_53 : decode cX4_worthInRain 53 = .ok (.iinc 6 1, 3) := by decide +kernel
theorem dX4_worthInRain_56 : decode cX4_worthInRain 56 = .ok (.goto (-37), 3) := by decide +kernel
theorem dX4_worthInRain_59 : decode cX4_worthInRain 59 = .ok (.iload 5, 2) := by decide +kernel
theorem dX4_worthInRain_61 : decode cX4_worthInRain 61 = .ok (.ireturn, 1) := by decide +kernel
theorem dX4_worthOfAll_0 : decode cX4_worthOfAll 0 = .ok (.iconst 0, 1) := by decide +kernel
theorem dX4_worthOfAll_1 : decode cX4_worthOfAll 1 = .ok (.istore_n 1, 1) := by decide +kernel
theorem dX4_worthOfAll_2 : decode cX4_worthOfAll 2 = .ok (.iconst 0, 1) := by decide +kernel
theorem dX4_worthOfAll_3 : decode cX4_worthOfAll 3 = .ok (.istore_n 2, 1) := by decide +kernel
theorem dX4_worthOfAll_4 : decode cX4_worthOfAll 4 = .ok (.iload_n 2, 1) := by decide +kernel
theorem dX4_worthOfAll_5 : decode cX4_worthOfAll 5 = .ok (.aload_n 0, 1) := by decide +kernel
theorem dX4_worthOfAll_6 : decode cX4_worthOfAll 6 = .ok (.getfield 9, 3) := by decide +kernel
theorem dX4_worthOfAll_9 : decode cX4_worthOfAll 9 = .ok (.if_icmp .ge 17, 3) := by decide +kernel
theorem dX4_worthOfAll_12 : decode cX4_worthOfAll 12 = .ok (.iload_n 1, 1) := by decide +kernel
theorem dX4_worthOfAll_13 : decode cX4_worthOfAll 13 = .ok (.aload_n 0, 1) := by decide +kernel
theorem dX4_worthOfAll_14 : decode cX4_worthOfAll 14 = .ok (.iload_n 2, 1) := by decide +kernel
theorem dX4_worthOfAll_15 : decode cX4_worthOfAll 15 = .ok (.invokevirtual 74, 3) := by decide +kernel
theorem dX4_worthOfAll_18 : decode cX4_worthOfAll 18 = .ok (.iadd, 1) := by decide +kernel
theorem dX4_worthOfAll_19 : decode cX4_worthOfAll 19 = .ok (.istore_n 1, 1) := by decide +kernel
theorem dX4_worthOfAll_20 : decode cX4_worthOfAll 20 = .ok (.iinc 2 1, 3) := by decide +kernel
theorem dX4_worthOfAll_23 : decode cX4_worthOfAll 23 = .ok (.goto (-19), 3) := by decide +kernel
theorem dX4_worthOfAll_26 : decode cX4_worthOfAll 26 = .ok (.iload_n 1, 1) := by decide +kernel
theorem dX4_worthOfAll_27 : decode cX4_worthOfAll 27 = .ok (.ireturn, 1) := by decide +kernel
theorem dX4_worthOfAllOn_0 : decode cX4_worthOfAllOn 0 = .ok (.iconst 0, 1) := by decide +kernel
theorem dX4_worthOfAllOn_1 : decode cX4_worthOfAllOn 1 = .ok (.istore_n 2, 1) := by decide +kernel
theorem dX4_worthOfAllOn_2 : decode cX4_worthOfAllOn 2 = .ok (.iconst 0, 1) := by decide +kernel
theorem dX4_worthOfAllOn_3 : decode cX4_worthOfAllOn 3 = .ok (.istore_n 3, 1) := by decide +kernel
theorem dX4_worthOfAllOn_4 : decode cX4_worthOfAllOn 4 = .ok (.iload_n 3, 1) := by decide +kernel
theorem dX4_worthOfAllOn_5 : decode cX4_worthOfAllOn 5 = .ok (.aload_n 0, 1) := by decide +kernel
theorem dX4_worthOfAllOn_6 : decode cX4_worthOfAllOn 6 = .ok (.getfield 9, 3) := by decide +kernel
theorem dX4_worthOfAllOn_9 : decode cX4_worthOfAllOn 9 = .ok (.if_icmp .ge 31, 3) := by decide +kernel
theorem dX4_worthOfAllOn_12 : decode cX4_worthOfAllOn 12 = .ok (.iload_n 2, 1) := by decide +kernel
theorem dX4_worthOfAllOn_13 : decode cX4_worthOfAllOn 13 = .ok (.aload_n 0, 1) := by decide +kernel
theorem dX4_worthOfAllOn_14 : decode cX4_worthOfAllOn 14 = .ok (.iload_n 3, 1) := by decide +kernel
theorem dX4_worthOfAllOn_15 : decode cX4_worthOfAllOn 15 = .ok (.iconst 2, 1) := by decide +kernel
theorem dX4_worthOfAllOn_16 : decode cX4_worthOfAllOn 16 = .ok (.iload_n 1, 1) := by decide +kernel
theorem dX4_worthOfAllOn_17 : decode cX4_worthOfAllOn 17 = .ok (.imul, 1) := by decide +kernel
theorem dX4_worthOfAllOn_18 : decode cX4_worthOfAllOn 18 = .ok (.invokevirtual 78, 3) := by decide +kernel
theorem dX4_worthOfAllOn_21 : decode cX4_worthOfAllOn 21 = .ok (.aload_n 0, 1) := by decide +kernel
theorem dX4_worthOfAllOn_22 : decode cX4_worthOfAllOn 22 = .ok (.iload_n 3, 1) := by decide +kernel
theorem dX4_worthOfAllOn_23 : decode cX4_worthOfAllOn 23 = .ok (.iconst 2, 1) := by decide +kernel
theorem dX4_worthOfAllOn_24 : decode cX4_worthOfAllOn 24 = .ok (.iload_n 1, 1) := by decide +kernel
theorem dX4_worthOfAllOn_25 : decode cX4_worthOfAllOn 25 = .ok (.imul, 1) := by decide +kernel
theorem dX4_worthOfAllOn_26 : decode cX4_worthOfAllOn 26 = .ok (.iconst 1, 1) := by decide +kernel
theorem dX4_worthOfAllOn_27 : decode cX4_worthOfAllOn 27 = .ok (.iadd, 1) := by decide +kernel
theorem dX4_worthOfAllOn_28 : decode cX4_worthOfAllOn 28 = .ok (.invokevirtual 78, 3) := by decide +kernel
theorem dX4_worthOfAllOn_31 : decode cX4_worthOfAllOn 31 = .ok (.iadd, 1) := by decide +kernel
theorem dX4_worthOfAllOn_32 : decode cX4_worthOfAllOn 32 = .ok (.iadd, 1) := by decide +kernel
theorem dX4_worthOfAllOn_33 : decode cX4_worthOfAllOn 33 = .ok (.istore_n 2, 1) := by decide +kernel
theorem dX4_worthOfAllOn_34 : decode cX4_worthOfAllOn 34 = .ok (.iinc 3 1, 3) := by decide +kernel
theorem dX4_worthOfAllOn_37 : decode cX4_worthOfAllOn 37 = .ok (.goto (-33), 3) := by decide +kernel
theorem dX4_worthOfAllOn_40 : decode cX4_worthOfAllOn 40 = .ok (.iload_n 2, 1) := by decide +kernel
theorem dX4_worthOfAllOn_41 : decode cX4_worthOfAllOn 41 = .ok (.ireturn, 1) := by decide +kernel
theorem dX4_chalkOfAll_0 : decode cX4_chalkOfAll 0 = .ok (.iconst 0, 1) := by decide +kernel
theorem dX4_chalkOfAll_1 : decode cX4_chalkOfAll 1 = .ok (.istore_n 1, 1) := by decide +kernel
theorem dX4_chalkOfAll_2 : decode cX4_chalkOfAll 2 = .ok (.iconst 0, 1) := by decide +kernel
theorem dX4_chalkOfAll_3 : decode cX4_chalkOfAll 3 = .ok (.istore_n 2, 1) := by decide +kernel
theorem dX4_chalkOfAll_4 : decode cX4_chalkOfAll 4 = .ok (.iload_n 2, 1) := by decide +kernel
theorem dX4_chalkOfAll_5 : decode cX4_chalkOfAll 5 = .ok (.aload_n 0, 1) := by decide +kernel
theorem dX4_chalkOfAll_6 : decode cX4_chalkOfAll 6 = .ok (.getfield 9, 3) := by decide +kernel
theorem dX4_chalkOfAll_9 : decode cX4_chalkOfAll 9 = .ok (.if_icmp .ge 21, 3) := by decide +kernel
theorem dX4_chalkOfAll_12 : decode cX4_chalkOfAll 12 = .ok (.iload_n 1, 1) := by decide +kernel
theorem dX4_chalkOfAll_13 : decode cX4_chalkOfAll 13 = .ok (.aload_n 0, 1) := by decide +kernel
theorem dX4_chalkOfAll_14 : decode cX4_chalkOfAll 14 = .ok (.getfield 28, 3) := by decide +kernel
theorem dX4_chalkOfAll_17 : decode cX4_chalkOfAll 17 = .ok (.getfield 46, 3) := by decide +kernel
theorem dX4_chalkOfAll_20 : decode cX4_chalkOfAll 20 = .ok (.iload_n 2, 1) := by decide +kernel
theorem dX4_chalkOfAll_21 : decode cX4_chalkOfAll 21 = .ok (.iaload, 1) := by decide +kernel
theorem dX4_chalkOfAll_22 : decode cX4_chalkOfAll 22 = .ok (.iadd, 1) := by decide +kernel
theorem dX4_chalkOfAll_23 : decode cX4_chalkOfAll 23 = .ok (.istore_n 1, 1) := by decide +kernel
theorem dX4_chalkOfAll_24 : decode cX4_chalkOfAll 24 = .ok (.iinc 2 1, 3) := by decide +kernel
theorem dX4_chalkOfAll_27 : decode cX4_chalkOfAll 27 = .ok (.goto (-23), 3) := by decide +kernel
theorem dX4_chalkOfAll_30 : decode cX4_chalkOfAll 30 = .ok (.iload_n 1, 1) := by decide +kernel
theorem dX4_chalkOfAll_31 : decode cX4_chalkOfAll 31 = .ok (.ireturn, 1) := by decide +kernel
theorem dX4_dearestHalf_0 : decode cX4_dearestHalf 0 = .ok (.bipush (-4), 2) := by decide +kernel
theorem dX4_dearestHalf_2 : decode cX4_dearestHalf 2 = .ok (.istore_n 2, 1) := by decide +kernel
theorem dX4_dearestHalf_3 : decode cX4_dearestHalf 3 = .ok (.iconst (-1), 1) := by decide +kernel
theorem dX4_dearestHalf_4 : decode cX4_dearestHalf 4 = .ok (.istore_n 3, 1) := by decide +kernel
theorem dX4_dearestHalf_5 : decode cX4_dearestHalf 5 = .ok (.iconst 0, 1) := by decide +kernel
theorem dX4_dearestHalf_6 : decode cX4_dearestHalf 6 = .ok (.istore 4, 2) := by decide +kernel
theorem dX4_dearestHalf_8 : decode cX4_dearestHalf 8 = .ok (.iload 4, 2) := by decide +kernel
theorem dX4_dearestHalf_10 : decode cX4_dearestHalf 10 = .ok (.bipush 12, 2) := by decide +kernel
theorem dX4_dearestHalf_12 : decode cX4_dearestHalf 12 = .ok (.if_icmp .ge 44, 3) := by decide +kernel
theorem dX4_dearestHalf_15 : decode cX4_dearestHalf 15 = .ok (.aload_n 0, 1) := by decide +kernel
theorem dX4_dearestHalf_16 : decode cX4_dearestHalf 16 = .ok (.getfield 28, 3) := by decide +kernel
theorem dX4_dearestHalf_19 : decode cX4_dearestHalf 19 = .ok (.iload_n 1, 1) := by decide +kernel
theorem dX4_dearestHalf_20 : decode cX4_dearestHalf 20 = .ok (.iload 4, 2) := by decide +kernel
theorem dX4_dearestHalf_22 : decode cX4_dearestHalf 22 = .ok (.invokevirtual 81, 3) := by decide +kernel
theorem dX4_dearestHalf_25 : decode cX4_dearestHalf 25 = .ok (.ifCond .le 25, 3) := by decide +kernel
theorem dX4_dearestHalf_28 : decode cX4_dearestHalf 28 = .ok (.aload_n 0, 1) := by decide +kernel
theorem dX4_dearestHalf_29 : decode cX4_dearestHalf 29 = .ok (.iload_n 1, 1) := by decide +kernel
theorem dX4_dearestHalf_30 : decode cX4_dearestHalf 30 = .ok (.iload 4, 2) := by decide +kernel
theorem dX4_dearestHalf_32 : decode cX4_dearestHalf 32 = .ok (.invokevirtual 78, 3) := by decide +kernel
theorem dX4_dearestHalf_35 : decode cX4_dearestHalf 35 = .ok (.iload_n 3, 1) := by decide +kernel
theorem dX4_dearestHalf_36 : decode cX4_dearestHalf 36 = .ok (.if_icmp .le 14, 3) := by decide +kernel
theorem dX4_dearestHalf_39 : decode cX4_dearestHalf 39 = .ok (.aload_n 0, 1) := by decide +kernel
theorem dX4_dearestHalf_40 : decode cX4_dearestHalf 40 = .ok (.iload_n 1, 1) := by decide +kernel
theorem dX4_dearestHalf_41 : decode cX4_dearestHalf 41 = .ok (.iload 4, 2) := by decide +kernel
theorem dX4_dearestHalf_43 : decode cX4_dearestHalf 43 = .ok (.invokevirtual 78, 3) := by decide +kernel
theorem dX4_dearestHalf_46 : decode cX4_dearestHalf 46 = .ok (.istore_n 3, 1) := by decide +kernel
theorem dX4_dearestHalf_47 : decode cX4_dearestHalf 47 = .ok (.iload 4, 2) := by decide +kernel
theorem dX4_dearestHalf_49 : decode cX4_dearestHalf 49 = .ok (.istore_n 2, 1) := by decide +kernel
theorem dX4_dearestHalf_50 : decode cX4_dearestHalf 50 = .ok (.iinc 4 1, 3) := by decide +kernel
theorem dX4_dearestHalf_53 : decode cX4_dearestHalf 53 = .ok (.goto (-45), 3) := by decide +kernel
theorem dX4_dearestHalf_56 : decode cX4_dearestHalf 56 = .ok (.iload_n 2, 1) := by decide +kernel
theorem dX4_dearestHalf_57 : decode cX4_dearestHalf 57 = .ok (.ireturn, 1) := by decide +kernel
theorem dX4_maySell_0 : decode cX4_maySell 0 = .ok (.aload_n 0, 1) := by decide +kernel
theorem dX4_maySell_1 : decode cX4_maySell 1 = .ok (.getfield 28, 3) := by decide +kernel
theorem dX4_maySell_4 : decode cX4_maySell 4 = .ok (.iload_n 1, 1) := by decide +kernel
theorem dX4_maySell_5 : decode cX4_maySell 5 = .ok (.iload_n 3, 1) := by decide +kernel
theorem dX4_maySell_6 : decode cX4_maySell 6 = .ok (.invokevirtual 81, 3) := by decide +kernel
theorem dX4_maySell_9 : decode cX4_maySell 9 = .ok (.istore 5, 2) := by decide +kernel
theorem dX4_maySell_11 : decode cX4_maySell 11 = .ok (.iload 5, 2) := by decide +kernel
theorem dX4_maySell_13 : decode cX4_maySell 13 = .ok (.iconst 1, 1) := by decide +kernel
theorem dX4_maySell_14 : decode cX4_maySell 14 = .ok (.if_icmp .gt 22, 3) := by decide +kernel
theorem dX4_maySell_17 : decode cX4_maySell 17 = .ok (.aload_n 0, 1) := by decide +kernel
theorem dX4_maySell_18 : decode cX4_maySell 18 = .ok (.getfield 28, 3) := by decide +kernel
theorem dX4_maySell_21 : decode cX4_maySell 21 = .ok (.getfield 53, 3) := by decide +kernel
theorem dX4_maySell_24 : decode cX4_maySell 24 = .ok (.iload_n 1, 1) := by decide +kernel
theorem dX4_maySell_25 : decode cX4_maySell 25 = .ok (.iaload, 1) := by decide +kernel
theorem dX4_maySell_26 : decode cX4_maySell 26 = .ok (.invokestatic 84, 3) := by decide +kernel
theorem dX4_maySell_29 : decode cX4_maySell 29 = .ok (.aload_n 0, 1) := by decide +kernel
theorem dX4_maySell_30 : decode cX4_maySell 30 = .ok (.getfield 15, 3) := by decide +kernel
theorem dX4_maySell_33 : decode cX4_maySell 33 = .ok (.if_icmp .le 7, 3) := by decide +kernel
theorem dX4_maySell_36 : decode cX4_maySell 36 = .ok (.iconst 1, 1) := by decide +kernel
theorem dX4_maySell_37 : decode cX4_maySell 37 = .ok (.goto 4, 3) := by decide +kernel
theorem dX4_maySell_40 : decode cX4_maySell 40 = .ok (.iconst 0, 1) := by decide +kernel
theorem dX4_maySell_41 : decode cX4_maySell 41 = .ok (.istore 6, 2) := by decide +kernel
theorem dX4_maySell_43 : decode cX4_maySell 43 = .ok (.iload 5, 2) := by decide +kernel
theorem dX4_maySell_45 : decode cX4_maySell 45 = .ok (.ifCond .le 26, 3) := by decide +kernel
theorem dX4_maySell_48 : decode cX4_maySell 48 = .ok (.iload 6, 2) := by decide +kernel
theorem dX4_maySell_50 : decode cX4_maySell 50 = .ok (.ifCond .eq 21, 3) := by decide +kernel
theorem dX4_maySell_53 : decode cX4_maySell 53 = .ok (.aload_n 0, 1) := by decide +kernel
theorem dX4_maySell_54 : decode cX4_maySell 54 = .ok (.getfield 28, 3) := by decide +kernel
theorem dX4_maySell_57 : decode cX4_maySell 57 = .ok (.getfield 46, 3) := by decide +kernel
theorem dX4_maySell_60 : decode cX4_maySell 60 = .ok (.iload_n 2, 1) := by decide +kernel
theorem dX4_maySell_61 : decode cX4_maySell 61 = .ok (.iaload, 1) := by decide +kernel
theorem dX4_maySell_62 : decode cX4_maySell 62 = .ok (.iload 4, 2) := by decide +kernel
theorem dX4_maySell_64 : decode cX4_maySell 64 = .ok (.if_icmp .lt 7, 3) := by decide +kernel
theorem dX4_maySell_67 : decode cX4_maySell 67 = .ok (.iconst 1, 1) := by decide +kernel
theorem dX4_maySell_68 : decode cX4_maySell 68 = .ok (.goto 4, 3) := by decide +kernel
theorem dX4_maySell_71 : decode cX4_maySell 71 = .ok (.iconst 0, 1) := by decide +kernel
theorem dX4_maySell_72 : decode cX4_maySell 72 = .ok (.ireturn, 1) := by decide +kernel
theorem dX4_gainOfSale_0 : decode cX4_gainOfSale 0 = .ok (.aload_n 0, 1) := by decide +kernel
theorem dX4_gainOfSale_1 : decode cX4_gainOfSale 1 = .ok (.iload_n 3, 1) := by decide +kernel
theorem dX4_gainOfSale_2 : decode cX4_gainOfSale 2 = .ok (.iconst 2, 1) := by decide +kernel
theorem dX4_gainOfSale_3 : decode cX4_gainOfSale 3 = .ok (.idiv, 1) := by decide +kernel
theorem dX4_gainOfSale_4 : decode cX4_gainOfSale 4 = .ok (.invokevirtual 89, 3) := by decide +kernel
theorem dX4_gainOfSale_7 : decode cX4_gainOfSale 7 = .ok (.istore 4, 2) := by decide +kernel
theorem dX4_gainOfSale_9 : decode cX4_gainOfSale 9 = .ok (.aload_n 0, 1) := by decide +kernel
theorem dX4_gainOfSale_10 : decode cX4_gainOfSale 10 = .ok (.getfield 28, 3) := by decide +kernel
theorem dX4_gainOfSale_13 : decode cX4_gainOfSale 13 = .ok (.iload_n 1, 1) := by decide +kernel
theorem dX4_gainOfSale_14 : decode cX4_gainOfSale 14 = .ok (.iload_n 2, 1) := by decide +kernel
theorem dX4_gainOfSale_15 : decode cX4_gainOfSale 15 = .ok (.iload_n 3, 1) := by decide +kernel
theorem dX4_gainOfSale_16 : decode cX4_gainOfSale 16 = .ok (.invokevirtual 92, 3) := by decide +kernel
theorem dX4_gainOfSale_19 : decode cX4_gainOfSale 19 = .ok (.aload_n 0, 1) := by decide +kernel
theorem dX4_gainOfSale_20 : decode cX4_gainOfSale 20 = .ok (.iload_n 3, 1) := by decide +kernel
theorem dX4_gainOfSale_21 : decode cX4_gainOfSale 21 = .ok (.iconst 2, 1) := by decide +kernel
theorem dX4_gainOfSale_22 : decode cX4_gainOfSale 22 = .ok (.idiv, 1) := by decide +kernel
theorem dX4_gainOfSale_23 : decode cX4_gainOfSale 23 = .ok (.invokevirtual 89, 3) := by decide +kernel
theorem dX4_gainOfSale_26 : decode cX4_gainOfSale 26 = .ok (.istore 5, 2) := by decide +kernel
theorem dX4_gainOfSale_28 : decode cX4_gainOfSale 28 = .ok (.aload_n 0, 1) := by decide +kernel
theorem dX4_gainOfSale_29 : decode cX4_gainOfSale 29 = .ok (.getfield 28, 3) := by decide +kernel
theorem dX4_gainOfSale_32 : decode cX4_gainOfSale 32 = .ok (.iload_n 2, 1) := by decide +kernel
theorem dX4_gainOfSale_33 : decode cX4_gainOfSale 33 = .ok (.iload_n 1, 1) := by decide +kernel
theorem dX4_gainOfSale_34 : decode cX4_gainOfSale 34 = .ok (.iload_n 3, 1) := by decide +kernel
theorem dX4_gainOfSale_35 : decode cX4_gainOfSale 35 = .ok (.invokevirtual 92, 3) := by decide +kernel
theorem dX4_gainOfSale_38 : decode cX4_gainOfSale 38 = .ok (.iload 5, 2) := by decide +kernel
theorem dX4_gainOfSale_40 : decode cX4_gainOfSale 40 = .ok (.iload 4, 2) := by decide +kernel
theorem dX4_gainOfSale_42 : decode cX4_gainOfSale 42 = .ok (.isub, 1) := by decide +kernel
theorem dX4_gainOfSale_43 : decode cX4_gainOfSale 43 = .ok (.ireturn, 1) := by decide +kernel
theorem dX4_middleOfSale_0 : decode cX4_middleOfSale 0 = .ok (.aload_n 0, 1) := by decide +kernel
theorem dX4_middleOfSale_1 : decode cX4_middleOfSale 1 = .ok (.iload_n 1, 1) := by decide +kernel
theorem dX4_middleOfSale_2 : decode cX4_middleOfSale 2 = .ok (.invokevirtual 74, 3) := by decide +kernel
theorem dX4_middleOfSale_5 : decode cX4_middleOfSale 5 = .ok (.istore 4, 2) := by decide +kernel
theorem dX4_middleOfSale_7 : decode cX4_middleOfSale 7 = .ok (.aload_n 0, 1) := by decide +kernel
theorem dX4_middleOfSale_8 : decode cX4_middleOfSale 8 = .ok (.iload_n 2, 1) := by decide +kernel
theorem dX4_middleOfSale_9 : decode cX4_middleOfSale 9 = .ok (.invokevirtual 74, 3) := by decide +kernel
theorem dX4_middleOfSale_12 : decode cX4_middleOfSale 12 = .ok (.istore 5, 2) := by decide +kernel
theorem dX4_middleOfSale_14 : decode cX4_middleOfSale 14 = .ok (.aload_n 0, 1) := by decide +kernel
theorem dX4_middleOfSale_15 : decode cX4_middleOfSale 15 = .ok (.getfield 28, 3) := by decide +kernel
theorem dX4_middleOfSale_18 : decode cX4_middleOfSale 18 = .ok (.iload_n 1, 1) := by decide +kernel
theorem dX4_middleOfSale_19 : decode cX4_middleOfSale 19 = .ok (.iload_n 2, 1) := by decide +kernel
theorem dX4_middleOfSale_20 : decode cX4_middleOfSale 20 = .ok (.iload_n 3, 1) := by decide +kernel
theorem dX4_middleOfSale_21 : decode cX4_middleOfSale 21 = .ok (.invokevirtual 92, 3) := by decide +kernel
theorem dX4_middleOfSale_24 : decode cX4_middleOfSale 24 = .ok (.iload 4, 2) := by decide +kernel
theorem dX4_middleOfSale_26 : decode cX4_middleOfSale 26 = .ok (.aload_n 0, 1) := by decide +kernel
theorem dX4_middleOfSale_27 : decode cX4_middleOfSale 27 = .ok (.iload_n 1, 1) := by decide +kernel
theorem dX4_middleOfSale_28 : decode cX4_middleOfSale 28 = .ok (.invokevirtual 74, 3) := by decide +kernel
theorem dX4_middleOfSale_31 : decode cX4_middleOfSale 31 = .ok (.isub, 1) := by decide +kernel
theorem dX4_middleOfSale_32 : decode cX4_middleOfSale 32 = .ok (.istore 6, 2) := by decide +kernel
theorem dX4_middleOfSale_34 : decode cX4_middleOfSale 34 = .ok (.aload_n 0, 1) := by decide +kernel
theorem dX4_middleOfSale_35 : decode cX4_middleOfSale 35 = .ok (.iload_n 2, 1) := by decide +kernel
theorem dX4_middleOfSale_36 : decode cX4_middleOfSale 36 = .ok (.invokevirtual 74, 3) := by decide +kernel
theorem dX4_middleOfSale_39 : decode cX4_middleOfSale 39 = .ok (.iload 5, 2) := by decide +kernel
theorem dX4_middleOfSale_41 : decode cX4_middleOfSale 41 = .ok (.isub, 1) := by decide +kernel
theorem dX4_middleOfSale_42 : decode cX4_middleOfSale 42 = .ok (.istore 7, 2) := by decide +kernel
theorem dX4_middleOfSale_44 : decode cX4_middleOfSale 44 = .ok (.aload_n 0, 1) := by decide +kernel
theorem dX4_middleOfSale_45 : decode cX4_middleOfSale 45 = .ok (.getfield 28, 3) := by decide +kernel
theorem dX4_middleOfSale_48 : decode cX4_middleOfSale 48 = .ok (.iload_n 2, 1) := by decide +kernel
theorem dX4_middleOfSale_49 : decode cX4_middleOfSale 49 = .ok (.iload_n 1, 1) := by decide +kernel
theorem dX4_middleOfSale_50 : decode cX4_middleOfSale 50 = .ok (.iload_n 3, 1) := by decide +kernel
theorem dX4_middleOfSale_51 : decode cX4_middleOfSale 51 = .ok (.invokevirtual 92, 3) := by decide +kernel
theorem dX4_middleOfSale_54 : decode cX4_middleOfSale 54 = .ok (.iconst 0, 1) := by decide +kernel
theorem dX4_middleOfSale_55 : decode cX4_middleOfSale 55 = .ok (.iload 6, 2) := by decide +kernel
theorem dX4_middleOfSale_57 : decode cX4_middleOfSale 57 = .ok (.iload 7, 2) := by decide +kernel
theorem dX4_middleOfSale_59 : decode cX4_middleOfSale 59 = .ok (.iadd, 1) := by decide +kernel
theorem dX4_middleOfSale_60 : decode cX4_middleOfSale 60 = .ok (.iconst 2, 1) := by decide +kernel
theorem dX4_middleOfSale_61 : decode cX4_middleOfSale 61 = .ok (.idiv, 1) := by decide +kernel
theorem dX4_middleOfSale_62 : decode cX4_middleOfSale 62 = .ok (.invokestatic 95, 3) := by decide +kernel
theorem dX4_middleOfSale_65 : decode cX4_middleOfSale 65 = .ok (.ireturn, 1) := by decide +kernel
theorem dX4_bestSale_0 : decode cX4_bestSale 0 = .ok (.bipush (-4), 2) := by decide +kernel
theorem dX4_bestSale_2 : decode cX4_bestSale 2 = .ok (.istore_n 1, 1) := by decide +kernel
theorem dX4_bestSale_3 : decode cX4_bestSale 3 = .ok (.iconst 0, 1) := by decide +kernel
theorem dX4_bestSale_4 : decode cX4_bestSale 4 = .ok (.istore_n 2, 1) := by decide +kernel
theorem dX4_bestSale_5 : decode cX4_bestSale 5 = .ok (.iconst 0, 1) := by decide +kernel
theorem dX4_bestSale_6 : decode cX4_bestSale 6 = .ok (.istore_n 3, 1) := by decide +kernel
theorem dX4_bestSale_7 : decode cX4_bestSale 7 = .ok (.iload_n 3, 1) := by decide +kernel
theorem dX4_bestSale_8 : decode cX4_bestSale 8 = .ok (.aload_n 0, 1) := by decide +kernel
theorem dX4_bestSale_9 : decode cX4_bestSale 9 = .ok (.getfield 9, 3) := by decide +kernel
theorem dX4_bestSale_12 : decode cX4_bestSale 12 = .ok (.if_icmp .ge 88, 3) := by decide +kernel
theorem dX4_bestSale_15 : decode cX4_bestSale 15 = .ok (.iconst 0, 1) := by decide +kernel
theorem dX4_bestSale_16 : decode cX4_bestSale 16 = .ok (.istore 4, 2) := by decide +kernel
theorem dX4_bestSale_18 : decode cX4_bestSale 18 = .ok (.iload 4, 2) := by decide +kernel
theorem dX4_bestSale_20 : decode cX4_bestSale 20 = .ok (.aload_n 0, 1) := by decide +kernel
theorem dX4_bestSale_21 : decode cX4_bestSale 21 = .ok (.getfield 9, 3) := by decide +kernel
theorem dX4_bestSale_24 : decode cX4_bestSale 24 = .ok (.if_icmp .ge 70, 3) := by decide +kernel
theorem dX4_bestSale_27 : decode cX4_bestSale 27 = .ok (.iconst 0, 1) := by decide +kernel
theorem dX4_bestSale_28 : decode cX4_bestSale 28 = .ok (.istore 5, 2) := by decide +kernel
theorem dX4_bestSale_30 : decode cX4_bestSale 30 = .ok (.iload 5, 2) := by decide +kernel
theorem dX4_bestSale_32 : decode cX4_bestSale 32 = .ok (.bipush 12, 2) := by decide +kernel
theorem dX4_bestSale_34 : decode cX4_bestSale 34 = .ok (.if_icmp .ge 54, 3) := by decide +kernel
theorem dX4_bestSale_37 : decode cX4_bestSale 37 = .ok (.aload_n 0, 1) := by decide +kernel
theorem dX4_bestSale_38 : decode cX4_bestSale 38 = .ok (.iload_n 3, 1) := by decide +kernel
theorem dX4_bestSale_39 : decode cX4_bestSale 39 = .ok (.iload 4, 2) := by decide +kernel
theorem dX4_bestSale_41 : decode cX4_bestSale 41 = .ok (.iload 5, 2) := by decide +kernel
theorem dX4_bestSale_43 : decode cX4_bestSale 43 = .ok (.invokevirtual 100, 3) := by decide +kernel
theorem dX4_bestSale_46 : decode cX4_bestSale 46 = .ok (.ifCond .eq 15, 3) := by decide +kernel
theorem dX4_bestSale_49 : decode cX4_bestSale 49 = .ok (.aload_n 0, 1) := by decide +kernel
theorem dX4_bestSale_50 : decode cX4_bestSale 50 = .ok (.iload_n 3, 1) := by decide +kernel
theorem dX4_bestSale_51 : decode cX4_bestSale 51 = .ok (.iload 4, 2) := by decide +kernel
theorem dX4_bestSale_53 : decode cX4_bestSale 53 = .ok (.iload 5, 2) := by decide +kernel
theorem dX4_bestSale_55 : decode cX4_bestSale 55 = .ok (.invokevirtual 104, 3) := by decide +kernel
theorem dX4_bestSale_58 : decode cX4_bestSale 58 = .ok (.goto 4, 3) := by decide +kernel
theorem dX4_bestSale_61 : decode cX4_bestSale 61 = .ok (.iconst 0, 1) := by decide +kernel
theorem dX4_bestSale_62 : decode cX4_bestSale 62 = .ok (.istore 6, 2) := by decide +kernel
theorem dX4_bestSale_64 : decode cX4_bestSale 64 = .ok (.iload 6, 2) := by decide +kernel
theorem dX4_bestSale_66 : decode cX4_bestSale 66 = .ok (.iload_n 2, 1) := by decide +kernel
theorem dX4_bestSale_67 : decode cX4_bestSale 67 = .ok (.if_icmp .le 15, 3) := by decide +kernel
theorem dX4_bestSale_70 : decode cX4_bestSale 70 = .ok (.iload 6, 2) := by decide +kernel
theorem dX4_bestSale_72 : decode cX4_bestSale 72 = .ok (.istore_n 2, 1) := by decide +kernel
theorem dX4_bestSale_73 : decode cX4_bestSale 73 = .ok (.iload_n 3, 1) := by decide +kernel
theorem dX4_bestSale_74 : decode cX4_bestSale 74 = .ok (.iload 4, 2) := by decide +kernel
theorem dX4_bestSale_76 : decode cX4_bestSale 76 = .ok (.iload 5, 2) := by decide +kernel
theorem dX4_bestSale_78 : decode cX4_bestSale 78 = .ok (.invokestatic 107, 3) := by decide +kernel
theorem dX4_bestSale_81 : decode cX4_bestSale 81 = .ok (.istore_n 1, 1) := by decide +kernel
theorem dX4_bestSale_82 : decode cX4_bestSale 82 = .ok (.iinc 5 1, 3) := by decide +kernel
theorem dX4_bestSale_85 : decode cX4_bestSale 85 = .ok (.goto (-55), 3) := by decide +kernel
theorem dX4_bestSale_88 : decode cX4_bestSale 88 = .ok (.iinc 4 1, 3) := by decide +kernel
theorem dX4_bestSale_91 : decode cX4_bestSale 91 = .ok (.goto (-73), 3) := by decide +kernel
theorem dX4_bestSale_94 : decode cX4_bestSale 94 = .ok (.iinc 3 1, 3) := by decide +kernel
theorem dX4_bestSale_97 : decode cX4_bestSale 97 = .ok (.goto (-90), 3) := by decide +kernel
theorem dX4_bestSale_100 : decode cX4_bestSale 100 = .ok (.iload_n 1, 1) := by decide +kernel
theorem dX4_bestSale_101 : decode cX4_bestSale 101 = .ok (.ireturn, 1) := by decide +kernel
theorem dX4_mightGain_0 : decode cX4_mightGain 0 = .ok (.iload_n 1, 1) := by decide +kernel
theorem dX4_mightGain_1 : decode cX4_mightGain 1 = .ok (.iload_n 2, 1) := by decide +kernel
theorem dX4_mightGain_2 : decode cX4_mightGain 2 = .ok (.if_icmp .eq 34, 3) := by decide +kernel
theorem dX4_mightGain_5 : decode cX4_mightGain 5 = .ok (.aload_n 0, 1) := by decide +kernel
theorem dX4_mightGain_6 : decode cX4_mightGain 6 = .ok (.getfield 28, 3) := by decide +kernel
theorem dX4_mightGain_9 : decode cX4_mightGain 9 = .ok (.getfield 53, 3) := by decide +kernel
theorem dX4_mightGain_12 : decode cX4_mightGain 12 = .ok (.iload_n 2, 1) := by decide +kernel
theorem dX4_mightGain_13 : decode cX4_mightGain 13 = .ok (.iaload, 1) := by decide +kernel
theorem dX4_mightGain_14 : decode cX4_mightGain 14 = .ok (.iload_n 3, 1) := by decide +kernel
theorem dX4_mightGain_15 : decode cX4_mightGain 15 = .ok (.invokestatic 110, 3) := by decide +kernel
theorem dX4_mightGain_18 : decode cX4_mightGain 18 = .ok (.ifCond .ne 18, 3) := by decide +kernel
theorem dX4_mightGain_21 : decode cX4_mightGain 21 = .ok (.aload_n 0, 1) := by decide +kernel
theorem dX4_mightGain_22 : decode cX4_mightGain 22 = .ok (.iload_n 1, 1) := by decide +kernel
theorem dX4_mightGain_23 : decode cX4_mightGain 23 = .ok (.iload_n 2, 1) := by decide +kernel
theorem dX4_mightGain_24 : decode cX4_mightGain 24 = .ok (.iload_n 3, 1) := by decide +kernel
theorem dX4_mightGain_25 : decode cX4_mightGain 25 = .ok (.iconst 0, 1) := by decide +kernel
theorem dX4_mightGain_26 : decode cX4_mightGain 26 = .ok (.invokevirtual 114, 3) := by decide +kernel
theorem dX4_mightGain_29 : decode cX4_mightGain 29 = .ok (.ifCond .eq 7, 3) := by decide +kernel
theorem dX4_mightGain_32 : decode cX4_mightGain 32 = .ok (.iconst 1, 1) := by decide +kernel
theorem dX4_mightGain_33 : decode cX4_mightGain 33 = .ok (.goto 4, 3) := by decide +kernel
theorem dX4_mightGain_36 : decode cX4_mightGain 36 = .ok (.iconst 0, 1) := by decide +kernel
theorem dX4_mightGain_37 : decode cX4_mightGain 37 = .ok (.ireturn, 1) := by decide +kernel
theorem dX4_driftOnce_0 : decode cX4_driftOnce 0 = .ok (.aload_n 0, 1) := by decide +kernel
theorem dX4_driftOnce_1 : decode cX4_driftOnce 1 = .ok (.getfield 28, 3) := by decide +kernel
theorem dX4_driftOnce_4 : decode cX4_driftOnce 4 = .ok (.aload_n 0, 1) := by decide +kernel
theorem dX4_driftOnce_5 : decode cX4_driftOnce 5 = .ok (.getfield 28, 3) := by decide +kernel
theorem dX4_driftOnce_8 : decode cX4_driftOnce 8 = .ok (.getfield 118, 3) := by decide +kernel
theorem dX4_driftOnce_11 : decode cX4_driftOnce 11 = .ok (.ldc 121, 2) := by decide +kernel
theorem dX4_driftOnce_13 : decode cX4_driftOnce 13 = .ok (.imul, 1) := by decide +kernel
theorem dX4_driftOnce_14 : decode cX4_driftOnce 14 = .ok (.sipush 12345, 3) := by decide +kernel
theorem dX4_driftOnce_17 : decode cX4_driftOnce 17 = .ok (.iadd, 1) := by decide +kernel
theorem dX4_driftOnce_18 : decode cX4_driftOnce 18 = .ok (.ldc 122, 2) := by decide +kernel
theorem dX4_driftOnce_20 : decode cX4_driftOnce 20 = .ok (.iand, 1) := by decide +kernel
theorem dX4_driftOnce_21 : decode cX4_driftOnce 21 = .ok (.putfield 118, 3) := by decide +kernel
theorem dX4_driftOnce_24 : decode cX4_driftOnce 24 = .ok (.aload_n 0, 1) := by decide +kernel
theorem dX4_driftOnce_25 : decode cX4_driftOnce 25 = .ok (.getfield 9, 3) := by decide +kernel
theorem dX4_driftOnce_28 : decode cX4_driftOnce 28 = .ok (.ifCond .ne 4, 3) := by decide +kernel
theorem dX4_driftOnce_31 : decode cX4_driftOnce 31 = .ok (.return_, 1) := by decide +kernel
theorem dX4_driftOnce_32 : decode cX4_driftOnce 32 = .ok (.aload_n 0, 1) := by decide +kernel
theorem dX4_driftOnce_33 : decode cX4_driftOnce 33 = .ok (.getfield 28, 3) := by decide +kernel
theorem dX4_driftOnce_36 : decode cX4_driftOnce 36 = .ok (.getfield 118, 3) := by decide +kernel
theorem dX4_driftOnce_39 : decode cX4_driftOnce 39 = .ok (.ldc 123, 2) := by decide +kernel
theorem dX4_driftOnce_41 : decode cX4_driftOnce 41 = .ok (.idiv, 1) := by decide +kernel
theorem dX4_driftOnce_42 : decode cX4_driftOnce 42 = .ok (.aload_n 0, 1) := by decide +kernel
theorem dX4_driftOnce_43 : decode cX4_driftOnce 43 = .ok (.getfield 9, 3) := by decide +kernel
theorem dX4_driftOnce_46 : decode cX4_driftOnce 46 = .ok (.irem, 1) := by decide +kernel
theorem dX4_driftOnce_47 : decode cX4_driftOnce 47 = .ok (.istore_n 1, 1) := by decide +kernel
theorem dX4_driftOnce_48 : decode cX4_driftOnce 48 = .ok (.aload_n 0, 1) := by decide +kernel
theorem dX4_driftOnce_49 : decode cX4_driftOnce 49 = .ok (.getfield 28, 3) := by decide +kernel
theorem dX4_driftOnce_52 : decode cX4_driftOnce 52 = .ok (.getfield 118, 3) := by decide +kernel
theorem dX4_driftOnce_55 : decode cX4_driftOnce 55 = .ok (.sipush 1024, 3) := by decide +kernel
theorem dX4_driftOnce_58 : decode cX4_driftOnce 58 = .ok (.idiv, 1) := by decide +kernel
theorem dX4_driftOnce_59 : decode cX4_driftOnce 59 = .ok (.aload_n 0, 1) := by decide +kernel
theorem dX4_driftOnce_60 : decode cX4_driftOnce 60 = .ok (.getfield 9, 3) := by decide +kernel
theorem dX4_driftOnce_63 : decode cX4_driftOnce 63 = .ok (.irem, 1) := by decide +kernel
theorem dX4_driftOnce_64 : decode cX4_driftOnce 64 = .ok (.istore_n 2, 1) := by decide +kernel
theorem dX4_driftOnce_65 : decode cX4_driftOnce 65 = .ok (.aload_n 0, 1) := by decide +kernel
theorem dX4_driftOnce_66 : decode cX4_driftOnce 66 = .ok (.getfield 28, 3) := by decide +kernel
theorem dX4_driftOnce_69 : decode cX4_driftOnce 69 = .ok (.getfield 118, 3) := by decide +kernel
theorem dX4_driftOnce_72 : decode cX4_driftOnce 72 = .ok (.sipush 128, 3) := by decide +kernel
theorem dX4_driftOnce_75 : decode cX4_driftOnce 75 = .ok (.idiv, 1) := by decide +kernel
theorem dX4_driftOnce_76 : decode cX4_driftOnce 76 = .ok (.bipush 12, 2) := by decide +kernel
theorem dX4_driftOnce_78 : decode cX4_driftOnce 78 = .ok (.irem, 1) := by decide +kernel
theorem dX4_driftOnce_79 : decode cX4_driftOnce 79 = .ok (.istore_n 3, 1) := by decide +kernel
theorem dX4_driftOnce_80 : decode cX4_driftOnce 80 = .ok (.iload_n 1, 1) := by decide +kernel
theorem dX4_driftOnce_81 : decode cX4_driftOnce 81 = .ok (.iload_n 2, 1) := by decide +kernel
theorem dX4_driftOnce_82 : decode cX4_driftOnce 82 = .ok (.if_icmp .eq 15, 3) := by decide +kernel
theorem dX4_driftOnce_85 : decode cX4_driftOnce 85 = .ok (.aload_n 0, 1) := by decide +kernel
theorem dX4_driftOnce_86 : decode cX4_driftOnce 86 = .ok (.getfield 28, 3) := by decide +kernel
theorem dX4_driftOnce_89 : decode cX4_driftOnce 89 = .ok (.iload_n 1, 1) := by decide +kernel
theorem dX4_driftOnce_90 : decode cX4_driftOnce 90 = .ok (.iload_n 3, 1) := by decide +kernel
theorem dX4_driftOnce_91 : decode cX4_driftOnce 91 = .ok (.invokevirtual 81, 3) := by decide +kernel
theorem dX4_driftOnce_94 : decode cX4_driftOnce 94 = .ok (.ifCond .ne 4, 3) := by decide +kernel
theorem dX4_driftOnce_97 : decode cX4_driftOnce 97 = .ok (.return_, 1) := by decide +kernel
theorem dX4_driftOnce_98 : decode cX4_driftOnce 98 = .ok (.aload_n 0, 1) := by decide +kernel
theorem dX4_driftOnce_99 : decode cX4_driftOnce 99 = .ok (.iload_n 1, 1) := by decide +kernel
theorem dX4_driftOnce_100 : decode cX4_driftOnce 100 = .ok (.iload_n 2, 1) := by decide +kernel
theorem dX4_driftOnce_101 : decode cX4_driftOnce 101 = .ok (.iload_n 3, 1) := by decide +kernel
theorem dX4_driftOnce_102 : decode cX4_driftOnce 102 = .ok (.invokevirtual 124, 3) := by decide +kernel
theorem dX4_driftOnce_105 : decode cX4_driftOnce 105 = .ok (.istore 4, 2) := by decide +kernel
theorem dX4_driftOnce_107 : decode cX4_driftOnce 107 = .ok (.aload_n 0, 1) := by decide +kernel
theorem dX4_driftOnce_108 : decode cX4_driftOnce 108 = .ok (.iload_n 1, 1) := by decide +kernel
theorem dX4_driftOnce_109 : decode cX4_driftOnce 109 = .ok (.iload_n 2, 1) := by decide +kernel
theorem dX4_driftOnce_110 : decode cX4_driftOnce 110 = .ok (.iload_n 3, 1) := by decide +kernel
theorem dX4_driftOnce_111 : decode cX4_driftOnce 111 = .ok (.iload 4, 2) := by decide +kernel
theorem dX4_driftOnce_113 : decode cX4_driftOnce 113 = .ok (.invokevirtual 114, 3) := by decide +kernel
theorem dX4_driftOnce_116 : decode cX4_driftOnce 116 = .ok (.ifCond .eq 24, 3) := by decide +kernel
theorem dX4_driftOnce_119 : decode cX4_driftOnce 119 = .ok (.aload_n 0, 1) := by decide +kernel
theorem dX4_driftOnce_120 : decode cX4_driftOnce 120 = .ok (.getfield 28, 3) := by decide +kernel
theorem dX4_driftOnce_123 : decode cX4_driftOnce 123 = .ok (.iload_n 1, 1) := by decide +kernel
theorem dX4_driftOnce_124 : decode cX4_driftOnce 124 = .ok (.iload_n 2, 1) := by decide +kernel
theorem dX4_driftOnce_125 : decode cX4_driftOnce 125 = .ok (.iload_n 3, 1) := by decide +kernel
theorem dX4_driftOnce_126 : decode cX4_driftOnce 126 = .ok (.invokevirtual 92, 3) := by decide +kernel
theorem dX4_driftOnce_129 : decode cX4_driftOnce 129 = .ok (.aload_n 0, 1) := by decide +kernel
theorem dX4_driftOnce_130 : decode cX4_driftOnce 130 = .ok (.getfield 28, 3) := by decide +kernel
theorem dX4_driftOnce_133 : decode cX4_driftOnce 133 = .ok (.iload_n 2, 1) := by decide +kernel
theorem dX4_driftOnce_134 : decode cX4_driftOnce 134 = .ok (.iload_n 1, 1) := by decide +kernel
theorem dX4_driftOnce_135 : decode cX4_driftOnce 135 = .ok (.iload 4, 2) := by decide +kernel
theorem dX4_driftOnce_137 : decode cX4_driftOnce 137 = .ok (.invokevirtual 127, 3) := by decide +kernel
theorem dX4_driftOnce_140 : decode cX4_driftOnce 140 = .ok (.return_, 1) := by decide +kernel
theorem dX4_weightOfRain_0 : decode cX4_weightOfRain 0 = .ok (.bipush 63, 2) := by decide +kernel
theorem dX4_weightOfRain_2 : decode cX4_weightOfRain 2 = .ok (.aload_n 0, 1) := by decide +kernel
theorem dX4_weightOfRain_3 : decode cX4_weightOfRain 3 = .ok (.getfield 28, 3) := by decide +kernel
theorem dX4_weightOfRain_6 : decode cX4_weightOfRain 6 = .ok (.getfield 60, 3) := by decide +kernel
theorem dX4_weightOfRain_9 : decode cX4_weightOfRain 9 = .ok (.iconst (-1), 1) := by decide +kernel
theorem dX4_weightOfRain_10 : decode cX4_weightOfRain 10 = .ok (.ixor, 1) := by decide +kernel
theorem dX4_weightOfRain_11 : decode cX4_weightOfRain 11 = .ok (.iand, 1) := by decide +kernel
theorem dX4_weightOfRain_12 : decode cX4_weightOfRain 12 = .ok (.istore 4, 2) := by decide +kernel
theorem dX4_weightOfRain_14 : decode cX4_weightOfRain 14 = .ok (.iconst 0, 1) := by decide +kernel
theorem dX4_weightOfRain_15 : decode cX4_weightOfRain 15 = .ok (.istore 5, 2) := by decide +kernel
theorem dX4_weightOfRain_17 : decode cX4_weightOfRain 17 = .ok (.iconst 0, 1) := by decide +kernel
theorem dX4_weightOfRain_18 : decode cX4_weightOfRain 18 = .ok (.istore 6, 2) := by decide +kernel
theorem dX4_weightOfRain_20 : decode cX4_weightOfRain 20 = .ok (.iload 6, 2) := by decide +kernel
theorem dX4_weightOfRain_22 : decode cX4_weightOfRain 22 = .ok (.bipush 63, 2) := by decide +kernel
theorem dX4_weightOfRain_24 : decode cX4_weightOfRain 24 = .ok (.if_icmp .gt 95, 3) := by decide +kernel
theorem dX4_weightOfRain_27 : decode cX4_weightOfRain 27 = .ok (.iload 6, 2) := by decide +kernel
theorem dX4_weightOfRain_29 : decode cX4_weightOfRain 29 = .ok (.iload 4, 2) := by decide +kernel
theorem dX4_weightOfRain_31 : decode cX4_weightOfRain 31 = .ok (.iconst (-1), 1) := by decide +kernel
theorem dX4_weightOfRain_32 : decode cX4_weightOfRain 32 = .ok (.ixor, 1) := by decide +kernel
theorem dX4_weightOfRain_33 : decode cX4_weightOfRain 33 = .ok (.iand, 1) := by decide +kernel
theorem dX4_weightOfRain_34 : decode cX4_weightOfRain 34 = .ok (.ifCond .ne 7, 3) := by decide +kernel
theorem dX4_weightOfRain_37 : decode cX4_weightOfRain 37 = .ok (.iconst 1, 1) := by decide +kernel
theorem dX4_weightOfRain_38 : decode cX4_weightOfRain 38 = .ok (.goto 4, 3) := by decide +kernel
theorem dX4_weightOfRain_41 : decode cX4_weightOfRain 41 = .ok (.iconst 0, 1) := by decide +kernel
theorem dX4_weightOfRain_42 : decode cX4_weightOfRain 42 = .ok (.istore 7, 2) := by decide +kernel
theorem dX4_weightOfRain_44 : decode cX4_weightOfRain 44 = .ok (.iload 7, 2) := by decide +kernel
theorem dX4_weightOfRain_46 : decode cX4_weightOfRain 46 = .ok (.ifCond .eq 67, 3) := by decide +kernel
theorem dX4_weightOfRain_49 : decode cX4_weightOfRain 49 = .ok (.aload_n 0, 1) := by decide +kernel
theorem dX4_weightOfRain_50 : decode cX4_weightOfRain 50 = .ok (.iload_n 1, 1) := by decide +kernel
theorem dX4_weightOfRain_51 : decode cX4_weightOfRain 51 = .ok (.aload_n 0, 1) := by decide +kernel
theorem dX4_weightOfRain_52 : decode cX4_weightOfRain 52 = .ok (.getfield 28, 3) := by decide +kernel
theorem dX4_weightOfRain_55 : decode cX4_weightOfRain 55 = .ok (.getfield 53, 3) := by decide +kernel
theorem dX4_weightOfRain_58 : decode cX4_weightOfRain 58 = .ok (.iload_n 1, 1) := by decide +kernel
theorem dX4_weightOfRain_59 : decode cX4_weightOfRain 59 = .ok (.iaload, 1) := by decide +kernel
theorem dX4_weightOfRain_60 : decode cX4_weightOfRain 60 = .ok (.aload_n 0, 1) := by decide +kernel
theorem dX4_weightOfRain_61 : decode cX4_weightOfRain 61 = .ok (.getfield 28, 3) := by decide +kernel
theorem dX4_weightOfRain_64 : decode cX4_weightOfRain 64 = .ok (.getfield 60, 3) := by decide +kernel
theorem dX4_weightOfRain_67 : decode cX4_weightOfRain 67 = .ok (.iload 6, 2) := by decide +kernel
theorem dX4_weightOfRain_69 : decode cX4_weightOfRain 69 = .ok (.ior, 1) := by decide +kernel
theorem dX4_weightOfRain_70 : decode cX4_weightOfRain 70 = .ok (.invokevirtual 70, 3) := by decide +kernel
theorem dX4_weightOfRain_73 : decode cX4_weightOfRain 73 = .ok (.iload_n 2, 1) := by decide +kernel
theorem dX4_weightOfRain_74 : decode cX4_weightOfRain 74 = .ok (.if_icmp .lt 39, 3) := by decide +kernel
theorem dX4_weightOfRain_77 : decode cX4_weightOfRain 77 = .ok (.iload 4, 2) := by decide +kernel
theorem dX4_weightOfRain_79 : decode cX4_weightOfRain 79 = .ok (.iload 6, 2) := by decide +kernel
theorem dX4_weightOfRain_81 : decode cX4_weightOfRain 81 = .ok (.iconst (-1), 1) := by decide +kernel
theorem dX4_weightOfRain_82 : decode cX4_weightOfRain 82 = .ok (.ixor, 1) := by decide +kernel
theorem dX4_weightOfRain_83 : decode cX4_weightOfRain 83 = .ok (.iand, 1) := by decide +kernel
theorem dX4_weightOfRain_84 : decode cX4_weightOfRain 84 = .ok (.istore 8, 2) := by decide +kernel
theorem dX4_weightOfRain_86 : decode cX4_weightOfRain 86 = .ok (.iload 5, 2) := by decide +kernel
theorem dX4_weightOfRain_88 : decode cX4_weightOfRain 88 = .ok (.iload_n 3, 1) := by decide +kernel
theorem dX4_weightOfRain_89 : decode cX4_weightOfRain 89 = .ok (.iload 6, 2) := by decide +kernel
theorem dX4_weightOfRain_91 : decode cX4_weightOfRain 91 = .ok (.invokestatic 84, 3) := by decide +kernel
theorem dX4_weightOfRain_94 : decode cX4_weightOfRain 94 = .ok (.invokestatic 130, 3) := by decide +kernel
theorem dX4_weightOfRain_97 : decode cX4_weightOfRain 97 = .ok (.bipush 10, 2) := by decide +kernel
theorem dX4_weightOfRain_99 : decode cX4_weightOfRain 99 = .ok (.iload_n 3, 1) := by decide +kernel
theorem dX4_weightOfRain_100 : decode cX4_weightOfRain 100 = .ok (.isub, 1) := by decide +kernel
theorem dX4_weightOfRain_101 : decode cX4_weightOfRain 101 = .ok (.iload 8, 2) := by decide +kernel
theorem dX4_weightOfRain_103 : decode cX4_weightOfRain 103 = .ok (.invokestatic 84, 3) := by decide +kernel
theorem dX4_weightOfRain_106 : decode cX4_weightOfRain 106 = .ok (.invokestatic 130, 3) := by decide +kernel
theorem dX4_weightOfRain_109 : decode cX4_weightOfRain 109 = .ok (.imul, 1) := by decide +kernel
theorem dX4_weightOfRain_110 : decode cX4_weightOfRain 110 = .ok (.iadd, 1) := by decide +kernel
theorem dX4_weightOfRain_111 : decode cX4_weightOfRain 111 = .ok (.istore 5, 2) := by decide +kernel
theorem dX4_weightOfRain_113 : decode cX4_weightOfRain 113 = .ok (.iinc 6 1, 3) := by decide +kernel
theorem dX4_weightOfRain_116 : decode cX4_weightOfRain 116 = .ok (.goto (-96), 3) := by decide +kernel
theorem dX4_weightOfRain_119 : decode cX4_weightOfRain 119 = .ok (.iload 5, 2) := by decide +kernel
theorem dX4_weightOfRain_121 : decode cX4_weightOfRain 121 = .ok (.ireturn, 1) := by decide +kernel
theorem dX5_init_0 : decode cX5_init 0 = .ok (.aload_n 0, 1) := by decide +kernel
theorem dX5_init_1 : decode cX5_init 1 = .ok (.invokespecial 3, 3) := by decide +kernel
theorem dX5_init_4 : decode cX5_init 4 = .ok (.aload_n 0, 1) := by decide +kernel
theorem dX5_init_5 : decode cX5_init 5 = .ok (.new 9, 3) := by decide +kernel
theorem dX5_init_8 : decode cX5_init 8 = .ok (.dup, 1) := by decide +kernel
theorem dX5_init_9 : decode cX5_init 9 = .ok (.invokespecial 11, 3) := by decide +kernel
theorem dX5_init_12 : decode cX5_init 12 = .ok (.putfield 12, 3) := by decide +kernel
theorem dX5_init_15 : decode cX5_init 15 = .ok (.aload_n 0, 1) := by decide +kernel
theorem dX5_init_16 : decode cX5_init 16 = .ok (.new 16, 3) := by decide +kernel
theorem dX5_init_19 : decode cX5_init 19 = .ok (.dup, 1) := by decide +kernel
theorem dX5_init_20 : decode cX5_init 20 = .ok (.invokespecial 18, 3) := by decide +kernel
theorem dX5_init_23 : decode cX5_init 23 = .ok (.putfield 19, 3) := by decide +kernel
theorem dX5_init_26 : decode cX5_init 26 = .ok (.aload_n 0, 1) := by decide +kernel
theorem dX5_init_27 : decode cX5_init 27 = .ok (.new 9, 3) := by decide +kernel
theorem dX5_init_30 : decode cX5_init 30 = .ok (.dup, 1) := by decide +kernel
theorem dX5_init_31 : decode cX5_init 31 = .ok (.invokespecial 11, 3) := by decide +kernel
theorem dX5_init_34 : decode cX5_init 34 = .ok (.putfield 23, 3) := by decide +kernel
theorem dX5_init_37 : decode cX5_init 37 = .ok (.aload_n 0, 1) := by decide +kernel
theorem dX5_init_38 : decode cX5_init 38 = .ok (.new 16, 3) := by decide +kernel
theorem dX5_init_41 : decode cX5_init 41 = .ok (.dup, 1) := by decide +kernel
theorem dX5_init_42 : decode cX5_init 42 = .ok (.invokespecial 18, 3) := by decide +kernel
theorem dX5_init_45 : decode cX5_init 45 = .ok (.putfield 26, 3) := by decide +kernel
theorem dX5_init_48 : decode cX5_init 48 = .ok (.aload_n 0, 1) := by decide +kernel
theorem dX5_init_49 : decode cX5_init 49 = .ok (.iconst 0, 1) := by decide +kernel
theorem dX5_init_50 : decode cX5_init 50 = .ok (.putfield 29, 3) := by decide +kernel
theorem dX5_init_53 : decode cX5_init 53 = .ok (.aload_n 0, 1) := by decide +kernel
theorem dX5_init_54 : decode cX5_init 54 = .ok (.new 9, 3) := by decide +kernel
theorem dX5_init_57 : decode cX5_init 57 = .ok (.dup, 1) := by decide +kernel
theorem dX5_init_58 : decode cX5_init 58 = .ok (.invokespecial 11, 3) := by decide +kernel
theorem dX5_init_61 : decode cX5_init 61 = .ok (.putfield 33, 3) := by decide +kernel
theorem dX5_init_64 : decode cX5_init 64 = .ok (.aload_n 0, 1) := by decide +kernel
theorem dX5_init_65 : decode cX5_init 65 = .ok (.new 36, 3) := by decide +kernel
theorem dX5_init_68 : decode cX5_init 68 = .ok (.dup, 1) := by decide +kernel
theorem dX5_init_69 : decode cX5_init 69 = .ok (.invokespecial 38, 3) := by decide +kernel
theorem dX5_init_72 : decode cX5_init 72 = .ok (.putfield 39, 3) := by decide +kernel
theorem dX5_init_75 : decode cX5_init 75 = .ok (.aload_n 0, 1) := by decide +kernel
theorem dX5_init_76 : decode cX5_init 76 = .ok (.iconst 4, 1) := by decide +kernel
theorem dX5_init_77 : decode cX5_init 77 = .ok (.anewarray 43, 3) := by decide +kernel
theorem dX5_init_80 : decode cX5_init 80 = .ok (.putfield 45, 3) := by decide +kernel
theorem dX5_init_83 : decode cX5_init 83 = .ok (.iconst 0, 1) := by decide +kernel
theorem dX5_init_84 : decode cX5_init 84 = .ok (.istore_n 1, 1) := by decide +kernel
theorem dX5_init_85 : decode cX5_init 85 = .ok (.iload_n 1, 1) := by decide +kernel
theorem dX5_init_86 : decode cX5_init 86 = .ok (.iconst 4, 1) := by decide +kernel
theorem dX5_init_87 : decode cX5_init 87 = .ok (.if_icmp .ge 22, 3) := by decide +kernel
theorem dX5_init_90 : decode cX5_init 90 = .ok (.aload_n 0, 1) := by decide +kernel
theorem dX5_init_91 : decode cX5_init 91 = .ok (.getfield 45, 3) := by decide +kernel
theorem dX5_init_94 : decode cX5_init 94 = .ok (.iload_n 1, 1) := by decide +kernel
theorem dX5_init_95 : decode cX5_init 95 = .ok (.new 43, 3) := by decide +kernel
theorem dX5_init_98 : decode cX5_init 98 = .ok (.dup, 1) := by decide +kernel
theorem dX5_init_99 : decode cX5_init 99 = .ok (.invokespecial 49, 3) := by decide +kernel
theorem dX5_init_102 : decode cX5_init 102 = .ok (.aastore, 1) := by decide +kernel
theorem dX5_init_103 : decode cX5_init 103 = .ok (.iinc 1 1, 3) := by decide +kernel
theorem dX5_init_106 : decode cX5_init 106 = .ok (.goto (-21), 3) := by decide +kernel
theorem dX5_init_109 : decode cX5_init 109 = .ok (.return_, 1) := by decide +kernel
theorem dX5_person_0 : decode cX5_person 0 = .ok (.iload_n 1, 1) := by decide +kernel
theorem dX5_person_1 : decode cX5_person 1 = .ok (.iconst 0, 1) := by decide +kernel
theorem dX5_person_2 : decode cX5_person 2 = .ok (.iconst 4, 1) := by decide +kernel
theorem dX5_person_3 : decode cX5_person 3 = .ok (.invokestatic 50, 3) := by decide +kernel
theorem dX5_person_6 : decode cX5_person 6 = .ok (.ifCond .ne 5, 3) := by decide +kernel
theorem dX5_person_9 : decode cX5_person 9 = .ok (.iconst (-1), 1) := by decide +kernel
theorem dX5_person_10 : decode cX5_person 10 = .ok (.ireturn, 1) := by decide +kernel
theorem dX5_person_11 : decode cX5_person 11 = .ok (.aload_n 0, 1) := by decide +kernel
theorem dX5_person_12 : decode cX5_person 12 = .ok (.getfield 12, 3) := by decide +kernel
theorem dX5_person_15 : decode cX5_person 15 = .ok (.getfield 54, 3) := by decide +kernel
theorem dX5_person_18 : decode cX5_person 18 = .ok (.bipush 6, 2) := by decide +kernel
theorem dX5_person_20 : decode cX5_person 20 = .ok (.if_icmp .lt 6, 3) := by decide +kernel
theorem dX5_person_23 : decode cX5_person 23 = .ok (.bipush (-3), 2) := by decide +kernel
theorem dX5_person_25 : decode cX5_person 25 = .ok (.ireturn, 1) := by decide +kernel
theorem dX5_person_26 : decode cX5_person 26 = .ok (.aload_n 0, 1) := by decide +kernel
theorem dX5_person_27 : decode cX5_person 27 = .ok (.getfield 19, 3) := by decide +kernel
theorem dX5_person_30 : decode cX5_person 30 = .ok (.invokevirtual 58, 3) := by decide +kernel
theorem dX5_person_33 : decode cX5_person 33 = .ok (.aload_n 0, 1) := by decide +kernel
theorem dX5_person_34 : decode cX5_person 34 = .ok (.getfield 12, 3) := by decide +kernel
theorem dX5_person_37 : decode cX5_person 37 = .ok (.iload_n 1, 1) := by decide +kernel
theorem dX5_person_38 : decode cX5_person 38 = .ok (.bipush 50, 2) := by decide +kernel
theorem dX5_person_40 : decode cX5_person 40 = .ok (.invokevirtual 61, 3) := by decide +kernel
theorem dX5_person_43 : decode cX5_person 43 = .ok (.ireturn, 1) := by decide +kernel
theorem dX5_love_0 : decode cX5_love 0 = .ok (.aload_n 0, 1) := by decide +kernel
theorem dX5_love_1 : decode cX5_love 1 = .ok (.getfield 12, 3) := by decide +kernel
theorem dX5_love_4 : decode cX5_love 4 = .ok (.iload_n 1, 1) := by decide +kernel
theorem dX5_love_5 : decode cX5_love 5 = .ok (.invokevirtual 65, 3) := by decide +kernel
theorem dX5_love_8 : decode cX5_love 8 = .ok (.ifCond .eq 14, 3) := by decide +kernel
theorem dX5_love_11 : decode cX5_love 11 = .ok (.aload_n 0, 1) := by decide +kernel
theorem dX5_love_12 : decode cX5_love 12 = .ok (.getfield 12, 3) := by decide +kernel
theorem dX5_love_15 : decode cX5_love 15 = .ok (.iload_n 2, 1) := by decide +kernel
theorem dX5_love_16 : decode cX5_love 16 = .ok (.invokevirtual 65, 3) := by decide +kernel
theorem dX5_love_19 : decode cX5_love 19 = .ok (.ifCond .ne 5, 3) := by decide +kernel
theorem dX5_love_22 : decode cX5_love 22 = .ok (.iconst (-1), 1) := by decide +kernel
theorem dX5_love_23 : decode cX5_love 23 = .ok (.ireturn, 1) := by decide +kernel
theorem dX5_love_24 : decode cX5_love 24 = .ok (.aload_n 0, 1) := by decide +kernel
theorem dX5_love_25 : decode cX5_love 25 = .ok (.getfield 12, 3) := by decide +kernel
theorem dX5_love_28 : decode cX5_love 28 = .ok (.getfield 69, 3) := by decide +kernel
theorem dX5_love_31 : decode cX5_love 31 = .ok (.iload_n 1, 1) := by decide +kernel
theorem dX5_love_32 : decode cX5_love 32 = .ok (.iaload, 1) := by decide +kernel
theorem dX5_love_33 : decode cX5_love 33 = .ok (.istore_n 3, 1) := by decide +kernel
theorem dX5_love_34 : decode cX5_love 34 = .ok (.aload_n 0, 1) := by decide +kernel
theorem dX5_love_35 : decode cX5_love 35 = .ok (.getfield 12, 3) := by decide +kernel
theorem dX5_love_38 : decode cX5_love 38 = .ok (.getfield 69, 3) := by decide +kernel
theorem dX5_love_41 : decode cX5_love 41 = .ok (.iload_n 1, 1) := by decide +kernel
theorem dX5_love_42 : decode cX5_love 42 = .ok (.iload_n 2, 1) := by decide +kernel
theorem dX5_love_43 : decode cX5_love 43 = .ok (.iastore, 1) := by decide +kernel
theorem dX5_love_44 : decode cX5_love 44 = .ok (.iload_n 3, 1) := by decide +kernel
theorem dX5_love_45 : decode cX5_love 45 = .ok (.ireturn, 1) := by decide +kernel
theorem dX5_least_0 : decode cX5_least 0 = .ok (.iload_n 1, 1) := by decide +kernel
theorem dX5_least_1 : decode cX5_least 1 = .ok (.iconst 0, 1) := by decide +kernel
theorem dX5_least_2 : decode cX5_least 2 = .ok (.bipush 12, 2) := by decide +kernel
theorem dX5_least_4 : decode cX5_least 4 = .ok (.invokestatic 50, 3) := by decide +kernel
theorem dX5_least_7 : decode cX5_least 7 = .ok (.ifCond .ne 5, 3) := by decide +kernel
theorem dX5_least_10 : decode cX5_least 10 = .ok (.iconst (-1), 1) := by decide +kernel
theorem dX5_least_11 : decode cX5_least 11 = .ok (.ireturn, 1) := by decide +kernel
theorem dX5_least_12 : decode cX5_least 12 = .ok (.aload_n 0, 1) := by decide +kernel
theorem dX5_least_13 : decode cX5_least 13 = .ok (.getfield 12, 3) := by decide +kernel
theorem dX5_least_16 : decode cX5_least 16 = .ok (.getfield 73, 3) := by decide +kernel
theorem dX5_least_19 : decode cX5_least 19 = .ok (.istore_n 2, 1) := by decide +kernel
theorem dX5_least_20 : decode cX5_least 20 = .ok (.aload_n 0, 1) := by decide +kernel
theorem dX5_least_21 : decode cX5_least 21 = .ok (.getfield 12, 3) := by decide +kernel
theorem dX5_least_24 : decode cX5_least 24 = .ok (.iload_n 1, 1) := by decide +kernel
theorem dX5_least_25 : decode cX5_least 25 = .ok (.putfield 73, 3) := by decide +kernel
theorem dX5_least_28 : decode cX5_least 28 = .ok (.iload_n 2, 1) := by decide +kernel
theorem dX5_least_29 : decode cX5_least 29 = .ok (.ireturn, 1) := by decide +kernel
theorem dX5_of_0 : decode cX5_of 0 = .ok (.aload_n 0, 1) := by decide +kernel
theorem dX5_of_1 : decode cX5_of 1 = .ok (.getfield 12, 3) := by decide +kernel
theorem dX5_of_4 : decode cX5_of 4 = .ok (.iload_n 1, 1) := by decide +kernel
theorem dX5_of_5 : decode cX5_of 5 = .ok (.invokevirtual 65, 3) := by decide +kernel
theorem dX5_of_8 : decode cX5_of 8 = .ok (.ifCond .ne 5, 3) := by decide +kernel
theorem dX5_of_11 : decode cX5_of 11 = .ok (.iconst (-1), 1) := by decide +kernel
theorem dX5_of_12 : decode cX5_of 12 = .ok (.ireturn, 1) := by decide +kernel
theorem dX5_of_13 : decode cX5_of 13 = .ok (.iload_n 2, 1) := by decide +kernel
theorem dX5_of_14 : decode cX5_of 14 = .ok (.tableswitch 105 0 5 #[38, 48, 58, 71, 84, 96], 38) := by decide +kernel
theorem dX5_of_52 : decode cX5_of 52 = .ok (.aload_n 0, 1) := by decide +kernel
theorem dX5_of_53 : decode cX5_of 53 = .ok (.getfield 12, 3) := by decide +kernel
theorem dX5_of_56 : decode cX5_of 56 = .ok (.getfield 76, 3) := by decide +kernel
theorem dX5_of_59 : decode cX5_of 59 = .ok (.iload_n 1, 1) := by decide +kernel
theorem dX5_of_60 : decode cX5_of 60 = .ok (.iaload, 1) := by decide +kernel
theorem dX5_of_61 : decode cX5_of 61 = .ok (.ireturn, 1) := by decide +kernel
theorem dX5_of_62 : decode cX5_of 62 = .ok (.aload_n 0, 1) := by decide +kernel
theorem dX5_of_63 : decode cX5_of 63 = .ok (.getfield 12, 3) := by decide +kernel
theorem dX5_of_66 : decode cX5_of 66 = .ok (.getfield 69, 3) := by decide +kernel
theorem dX5_of_69 : decode cX5_of 69 = .ok (.iload_n 1, 1) := by decide +kernel
theorem dX5_of_70 : decode cX5_of 70 = .ok (.iaload, 1) := by decide +kernel
theorem dX5_of_71 : decode cX5_of 71 = .ok (.ireturn, 1) := by decide +kernel
theorem dX5_of_72 : decode cX5_of 72 = .ok (.aload_n 0, 1) := by decide +kernel
theorem dX5_of_73 : decode cX5_of 73 = .ok (.getfield 12, 3) := by decide +kernel
theorem dX5_of_76 : decode cX5_of 76 = .ok (.getfield 79, 3) := by decide +kernel
theorem dX5_of_79 : decode cX5_of 79 = .ok (.getfield 83, 3) := by decide +kernel
theorem dX5_of_82 : decode cX5_of 82 = .ok (.iload_n 1, 1) := by decide +kernel
theorem dX5_of_83 : decode cX5_of 83 = .ok (.iaload, 1) := by decide +kernel
theorem dX5_of_84 : decode cX5_of 84 = .ok (.ireturn, 1) := by decide +kernel
theorem dX5_of_85 : decode cX5_of 85 = .ok (.aload_n 0, 1) := by decide +kernel
theorem dX5_of_86 : decode cX5_of 86 = .ok (.getfield 12, 3) := by decide +kernel
theorem dX5_of_89 : decode cX5_of 89 = .ok (.getfield 79, 3) := by decide +kernel
theorem dX5_of_92 : decode cX5_of 92 = .ok (.getfield 88, 3) := by decide +kernel
theorem dX5_of_95 : decode cX5_of 95 = .ok (.iload_n 1, 1) := by decide +kernel
theorem dX5_of_96 : decode cX5_of 96 = .ok (.iaload, 1) := by decide +kernel
theorem dX5_of_97 : decode cX5_of 97 = .ok (.ireturn, 1) := by decide +kernel
theorem dX5_of_98 : decode cX5_of 98 = .ok (.aload_n 0, 1) := by decide +kernel
theorem dX5_of_99 : decode cX5_of 99 = .ok (.getfield 12, 3) := by decide +kernel
theorem dX5_of_102 : decode cX5_of 102 = .ok (.getfield 79, 3) := by decide +kernel
theorem dX5_of_105 : decode cX5_of 105 = .ok (.iload_n 1, 1) := by decide +kernel
theorem dX5_of_106 : decode cX5_of 106 = .ok (.invokevirtual 91, 3) := by decide +kernel
theorem dX5_of_109 : decode cX5_of 109 = .ok (.ireturn, 1) := by decide +kernel
theorem dX5_of_110 : decode cX5_of 110 = .ok (.aload_n 0, 1) := by decide +kernel
theorem dX5_of_111 : decode cX5_of 111 = .ok (.getfield 12, 3) := by decide +kernel
theorem dX5_of_114 : decode cX5_of 114 = .ok (.iload_n 1, 1) := by decide +kernel
theorem dX5_of_115 : decode cX5_of 115 = .ok (.invokevirtual 95, 3) := by decide +kernel
theorem dX5_of_118 : decode cX5_of 118 = .ok (.ireturn, 1) := by decide +kernel
theorem dX5_of_119 : decode cX5_of 119 = .ok (.iconst (-1), 1) := by decide +kernel
theorem dX5_of_120 : decode cX5_of 120 = .ok (.ireturn, 1) := by decide +kernel
theorem dX5_has_0 : decode cX5_has 0 = .ok (.aload_n 0, 1) := by decide +kernel
theorem dX5_has_1 : decode cX5_has 1 = .ok (.getfield 12, 3) := by decide +kernel
theorem dX5_has_4 : decode cX5_has 4 = .ok (.iload_n 1, 1) := by decide +kernel
theorem dX5_has_5 : decode cX5_has 5 = .ok (.invokevirtual 65, 3) := by decide +kernel
theorem dX5_has_8 : decode cX5_has 8 = .ok (.ifCond .eq 17, 3) := by decide +kernel
theorem dX5_has_11 : decode cX5_has 11 = .ok (.iload_n 2, 1) := by decide +kernel
theorem dX5_has_12 : decode cX5_has 12 = .ok (.invokestatic 98, 3) := by decide +kernel
theorem dX5_has_15 : decode cX5_has 15 = .ok (.ifCond .eq 10, 3) := by decide +kernel
theorem dX5_has_18 : decode cX5_has 18 = .ok (.iload_n 3, 1) := by decide +kernel
theorem dX5_has_19 : decode cX5_has 19 = .ok (.invokestatic 101, 3) := by decide +kernel
theorem dX5_has_22 : decode cX5_has 22 = .ok (.ifCond .ne 5, 3) := by decide +kernel
theorem dX5_has_25 : decode cX5_has 25 = .ok (.iconst (-1), 1) := by decide +kernel
theorem dX5_has_26 : decode cX5_has 26 = .ok (.ireturn, 1) := by decide +kernel
theorem dX5_has_27 : decode cX5_has 27 = .ok (.iload_n 3, 1) := by decide +kernel
theorem dX5_has_28 : decode cX5_has 28 = .ok (.ifCond .ne 18, 3) := by decide +kernel
theorem dX5_has_31 : decode cX5_has 31 = .ok (.aload_n 0, 1) := by decide +kernel
theorem dX5_has_32 : decode cX5_has 32 = .ok (.getfield 12, 3) := by decide +kernel
theorem dX5_has_35 : decode cX5_has 35 = .ok (.getfield 79, 3) := by decide +kernel
theorem dX5_has_38 : decode cX5_has 38 = .ok (.iload_n 1, 1) := by decide +kernel
theorem dX5_has_39 : decode cX5_has 39 = .ok (.iload_n 2, 1) := by decide +kernel
theorem dX5_has_40 : decode cX5_has 40 = .ok (.invokevirtual 104, 3) := by decide +kernel
theorem dX5_has_43 : decode cX5_has 43 = .ok (.goto 12, 3) := by decide +kernel
theorem dX5_has_46 : decode cX5_has 46 = .ok (.aload_n 0, 1) := by decide +kernel
theorem dX5_has_47 : decode cX5_has 47 = .ok (.getfield 12, 3) := by decide +kernel
theorem dX5_has_50 : decode cX5_has 50 = .ok (.iload_n 1, 1) := by decide +kernel
theorem dX5_has_51 : decode cX5_has 51 = .ok (.iload_n 2, 1) := by decide +kernel
theorem dX5_has_52 : decode cX5_has 52 = .ok (.invokevirtual 107, 3) := by decide +kernel
theorem dX5_has_55 : decode cX5_has 55 = .ok (.ireturn, 1) := by decide +kernel
theorem dX5_at_0 : decode cX5_at 0 = .ok (.iload_n 1, 1) := by decide +kernel
theorem dX5_at_1 : decode cX5_at 1 = .ok (.invokestatic 110, 3) := by decide +kernel
theorem dX5_at_4 : decode cX5_at 4 = .ok (.ifCond .eq 10, 3) := by decide +kernel
theorem dX5_at_7 : decode cX5_at 7 = .ok (.iload_n 2, 1) := by decide +kernel
theorem dX5_at_8 : decode cX5_at 8 = .ok (.invokestatic 101, 3) := by decide +kernel
theorem dX5_at_11 : decode cX5_at 11 = .ok (.ifCond .ne 5, 3) := by decide +kernel
theorem dX5_at_14 : decode cX5_at 14 = .ok (.iconst (-1), 1) := by decide +kernel
theorem dX5_at_15 : decode cX5_at 15 = .ok (.ireturn, 1) := by decide +kernel
theorem dX5_at_16 : decode cX5_at 16 = .ok (.iload_n 2, 1) := by decide +kernel
theorem dX5_at_17 : decode cX5_at 17 = .ok (.ifCond .ne 16, 3) := by decide +kernel
theorem dX5_at_20 : decode cX5_at 20 = .ok (.aload_n 0, 1) := by decide +kernel
theorem dX5_at_21 : decode cX5_at 21 = .ok (.getfield 12, 3) := by decide +kernel
theorem dX5_at_24 : decode cX5_at 24 = .ok (.getfield 79, 3) := by decide +kernel
theorem dX5_at_27 : decode cX5_at 27 = .ok (.getfield 113, 3) := by decide +kernel
theorem dX5_at_30 : decode cX5_at 30 = .ok (.goto 13, 3) := by decide +kernel
theorem dX5_at_33 : decode cX5_at 33 = .ok (.aload_n 0, 1) := by decide +kernel
theorem dX5_at_34 : decode cX5_at 34 = .ok (.getfield 12, 3) := by decide +kernel
theorem dX5_at_37 : decode cX5_at 37 = .ok (.getfield 79, 3) := by decide +kernel
theorem dX5_at_40 : decode cX5_at 40 = .ok (.getfield 116, 3) := by decide +kernel
theorem dX5_at_43 : decode cX5_at 43 = .ok (.iload_n 1, 1) := by decide +kernel
theorem dX5_at_44 : decode cX5_at 44 = .ok (.invokestatic 119, 3) := by decide +kernel
theorem dX5_at_47 : decode cX5_at 47 = .ok (.ifCond .eq 7, 3) := by decide +kernel
theorem dX5_at_50 : decode cX5_at 50 = .ok (.iconst 1, 1) := by decide +kernel
theorem dX5_at_51 : decode cX5_at 51 = .ok (.goto 4, 3) := by decide +kernel
theorem dX5_at_54 : decode cX5_at 54 = .ok (.iconst 0, 1) := by decide +kernel
theorem dX5_at_55 : decode cX5_at 55 = .ok (.ireturn, 1) := by decide +kernel
theorem dX5_type_0 : decode cX5_type 0 = .ok (.iload_n 1, 1) := by decide +kernel
theorem dX5_type_1 : decode cX5_type 1 = .ok (.bipush 32, 2) := by decide +kernel
theorem dX5_type_3 : decode cX5_type 3 = .ok (.bipush 126, 2) := by decide +kernel
theorem dX5_type_5 : decode cX5_type 5 = .ok (.invokestatic 50, 3) := by decide +kernel
theorem dX5_type_8 : decode cX5_type 8 = .ok (.ifCond .ne 5, 3) := by decide +kernel
theorem dX5_type_11 : decode cX5_type 11 = .ok (.iconst (-1), 1) := by decide +kernel
theorem dX5_type_12 : decode cX5_type 12 = .ok (.ireturn, 1) := by decide +kernel
theorem dX5_type_13 : decode cX5_type 13 = .ok (.aload_n 0, 1) := by decide +kernel
theorem dX5_type_14 : decode cX5_type 14 = .ok (.getfield 39, 3) := by decide +kernel
theorem dX5_type_17 : decode cX5_type 17 = .ok (.getfield 123, 3) := by decide +kernel
theorem dX5_type_20 : decode cX5_type 20 = .ok (.bipush 100, 2) := by decide +kernel
theorem dX5_type_22 : decode cX5_type 22 = .ok (.if_icmp .lt 6, 3) := by decide +kernel
theorem dX5_type_25 : decode cX5_type 25 = .ok (.bipush (-3), 2) := by decide +kernel
theorem dX5_type_27 : decode cX5_type 27 = .ok (.ireturn, 1) := by decide +kernel
theorem dX5_type_28 : decode cX5_type 28 = .ok (.aload_n 0, 1) := by decide +kernel
theorem dX5_type_29 : decode cX5_type 29 = .ok (.getfield 39, 3) := by decide +kernel
theorem dX5_type_32 : decode cX5_type 32 = .ok (.iload_n 1, 1) := by decide +kernel
theorem dX5_type_33 : decode cX5_type 33 = .ok (.i2c, 1) := by decide +kernel
theorem dX5_type_34 : decode cX5_type 34 = .ok (.invokevirtual 126, 3) := by decide +kernel
theorem dX5_type_37 : decode cX5_type 37 = .ok (.ireturn, 1) := by decide +kernel
theorem dX5_read_0 : decode cX5_read 0 = .ok (.aload_n 0, 1) := by decide +kernel
theorem dX5_read_1 : decode cX5_read 1 = .ok (.getfield 33, 3) := by decide +kernel
theorem dX5_read_4 : decode cX5_read 4 = .ok (.aload_n 0, 1) := by decide +kernel
theorem dX5_read_5 : decode cX5_read 5 = .ok (.getfield 12, 3) := by decide +kernel
theorem dX5_read_8 : decode cX5_read 8 = .ok (.invokevirtual 130, 3) := by decide +kernel
theorem dX5_read_11 : decode cX5_read 11 = .ok (.aload_n 0, 1) := by decide +kernel
theorem dX5_read_12 : decode cX5_read 12 = .ok (.getfield 39, 3) := by decide +kernel
theorem dX5_read_15 : decode cX5_read 15 = .ok (.aload_n 0, 1) := by decide +kernel
theorem dX5_read_16 : decode cX5_read 16 = .ok (.getfield 33, 3) := by decide +kernel
theorem dX5_read_19 : decode cX5_read 19 = .ok (.invokevirtual 134, 3) := by decide +kernel
theorem dX5_read_22 : decode cX5_read 22 = .ok (.istore_n 1, 1) := by decide +kernel
theorem dX5_read_23 : decode cX5_read 23 = .ok (.aload_n 0, 1) := by decide +kernel
theorem dX5_read_24 : decode cX5_read 24 = .ok (.getfield 39, 3) := by decide +kernel
theorem dX5_read_27 : decode cX5_read 27 = .ok (.getfield 138, 3) := by decide +kernel
theorem dX5_read_30 : decode cX5_read 30 = .ok (.istore_n 2, 1) := by decide +kernel
theorem dX5_read_31 : decode cX5_read 31 = .ok (.aload_n 0, 1) := by decide +kernel
theorem dX5_read_32 : decode cX5_read 32 = .ok (.getfield 39, 3) := by decide +kernel
theorem dX5_read_35 : decode cX5_read 35 = .ok (.invokevirtual 141, 3) := by decide +kernel
theorem dX5_read_38 : decode cX5_read 38 = .ok (.iload_n 1, 1) := by decide +kernel
theorem dX5_read_39 : decode cX5_read 39 = .ok (.ifCond .ne 8, 3) := by decide +kernel
theorem dX5_read_42 : decode cX5_read 42 = .ok (.bipush (-20), 2) := by decide +kernel
theorem dX5_read_44 : decode cX5_read 44 = .ok (.iload_n 2, 1) := by decide +kernel
theorem dX5_read_45 : decode cX5_read 45 = .ok (.isub, 1) := by decide +kernel
theorem dX5_read_46 : decode cX5_read 46 = .ok (.ireturn, 1) := by decide +kernel
theorem dX5_read_47 : decode cX5_read 47 = .ok (.aload_n 0, 1) := by decide +kernel
theorem dX5_read_48 : decode cX5_read 48 = .ok (.getfield 12, 3) := by decide +kernel
theorem dX5_read_51 : decode cX5_read 51 = .ok (.aload_n 0, 1) := by decide +kernel
theorem dX5_read_52 : decode cX5_read 52 = .ok (.getfield 33, 3) := by decide +kernel
theorem dX5_read_55 : decode cX5_read 55 = .ok (.invokevirtual 130, 3) := by decide +kernel
theorem dX5_read_58 : decode cX5_read 58 = .ok (.aload_n 0, 1) := by decide +kernel
theorem dX5_read_59 : decode cX5_read 59 = .ok (.getfield 19, 3) := by decide +kernel
theorem dX5_read_62 : decode cX5_read 62 = .ok (.invokevirtual 58, 3) := by decide +kernel
theorem dX5_read_65 : decode cX5_read 65 = .ok (.aload_n 0, 1) := by decide +kernel
theorem dX5_read_66 : decode cX5_read 66 = .ok (.getfield 12, 3) := by decide +kernel
theorem dX5_read_69 : decode cX5_read 69 = .ok (.getfield 54, 3) := by decide +kernel
theorem dX5_read_72 : decode cX5_read 72 = .ok (.ireturn, 1) := by decide +kernel
theorem dX5_count_0 : decode cX5_count 0 = .ok (.iload_n 1, 1) := by decide +kernel
theorem dX5_count_1 : decode cX5_count 1 = .ok (.tableswitch 105 0 6 #[43, 51, 59, 70, 81, 89, 97], 43) := by decide +kernel
theorem dX5_count_44 : decode cX5_count 44 = .ok (.aload_n 0, 1) := by decide +kernel
theorem dX5_count_45 : decode cX5_count 45 = .ok (.getfield 12, 3) := by decide +kernel
theorem dX5_count_48 : decode cX5_count 48 = .ok (.getfield 54, 3) := by decide +kernel
theorem dX5_count_51 : decode cX5_count 51 = .ok (.ireturn, 1) := by decide +kernel
theorem dX5_count_52 : decode cX5_count 52 = .ok (.aload_n 0, 1) := by decide +kernel
theorem dX5_count_53 : decode cX5_count 53 = .ok (.getfield 12, 3) := by decide +kernel
theorem dX5_count_56 : decode cX5_count 56 = .ok (.getfield 73, 3) := by decide +kernel
theorem dX5_count_59 : decode cX5_count 59 = .ok (.ireturn, 1) := by decide +kernel
theorem dX5_count_60 : decode cX5_count 60 = .ok (.aload_n 0, 1) := by decide +kernel
theorem dX5_count_61 : decode cX5_count 61 = .ok (.getfield 12, 3) := by decide +kernel
theorem dX5_count_64 : decode cX5_count 64 = .ok (.getfield 79, 3) := by decide +kernel
theorem dX5_count_67 : decode cX5_count 67 = .ok (.getfield 113, 3) := by decide +kernel
theorem dX5_count_70 : decode cX5_count 70 = .ok (.ireturn, 1) := by decide +kernel
theorem dX5_count_71 : decode cX5_count 71 = .ok (.aload_n 0, 1) := by decide +kernel
theorem dX5_count_72 : decode cX5_count 72 = .ok (.getfield 12, 3) := by decide +kernel
theorem dX5_count_75 : decode cX5_count 75 = .ok (.getfield 79, 3) := by decide +kernel
theorem dX5_count_78 : decode cX5_count 78 = .ok (.getfield 116, 3) := by decide +kernel
theorem dX5_count_81 : decode cX5_count 81 = .ok (.ireturn, 1) := by decide +kernel
theorem dX5_count_82 : decode cX5_count 82 = .ok (.aload_n 0, 1) := by decide +kernel
theorem dX5_count_83 : decode cX5_count 83 = .ok (.getfield 12, 3) := by decide +kernel
theorem dX5_count_86 : decode cX5_count 86 = .ok (.invokevirtual 144, 3) := by decide +kernel
theorem dX5_count_89 : decode cX5_count 89 = .ok (.ireturn, 1) := by decide +kernel
theorem dX5_count_90 : decode cX5_count 90 = .ok (.aload_n 0, 1) := by decide +kernel
theorem dX5_count_91 : decode cX5_count 91 = .ok (.getfield 12, 3) := by decide +kernel
theorem dX5_count_94 : decode cX5_count 94 = .ok (.invokevirtual 148, 3) := by decide +kernel
theorem dX5_count_97 : decode cX5_count 97 = .ok (.ireturn, 1) := by decide +kernel
theorem dX5_count_98 : decode cX5_count 98 = .ok (.aload_n 0, 1) := by decide +kernel
theorem dX5_count_99 : decode cX5_count 99 = .ok (.getfield 19, 3) := by decide +kernel
theorem dX5_count_102 : decode cX5_count 102 = .ok (.getfield 151, 3) := by decide +kernel
theorem dX5_count_105 : decode cX5_count 105 = .ok (.ireturn, 1) := by decide +kernel
theorem dX5_count_106 : decode cX5_count 106 = .ok (.iconst (-1), 1) := by decide +kernel
theorem dX5_count_107 : decode cX5_count 107 = .ok (.ireturn, 1) := by decide +kernel
theorem dX5_sell_0 : decode cX5_sell 0 = .ok (.aload_n 0, 1) := by decide +kernel
theorem dX5_sell_1 : decode cX5_sell 1 = .ok (.getfield 12, 3) := by decide +kernel
theorem dX5_sell_4 : decode cX5_sell 4 = .ok (.iload_n 1, 1) := by decide +kernel
theorem dX5_sell_5 : decode cX5_sell 5 = .ok (.iload_n 2, 1) := by decide +kernel
theorem dX5_sell_6 : decode cX5_sell 6 = .ok (.invokevirtual 154, 3) := by decide +kernel
theorem dX5_sell_9 : decode cX5_sell 9 = .ok (.ifCond .eq 21, 3) := by decide +kernel
theorem dX5_sell_12 : decode cX5_sell 12 = .ok (.iload_n 3, 1) := by decide +kernel
theorem dX5_sell_13 : decode cX5_sell 13 = .ok (.invokestatic 98, 3) := by decide +kernel
theorem dX5_sell_16 : decode cX5_sell 16 = .ok (.ifCond .eq 14, 3) := by decide +kernel
theorem dX5_sell_19 : decode cX5_sell 19 = .ok (.iload 4, 2) := by decide +kernel
theorem dX5_sell_21 : decode cX5_sell 21 = .ok (.iconst 0, 1) := by decide +kernel
theorem dX5_sell_22 : decode cX5_sell 22 = .ok (.bipush 99, 2) := by decide +kernel
theorem dX5_sell_24 : decode cX5_sell 24 = .ok (.invokestatic 50, 3) := by decide +kernel
theorem dX5_sell_27 : decode cX5_sell 27 = .ok (.ifCond .ne 5, 3) := by decide +kernel
theorem dX5_sell_30 : decode cX5_sell 30 = .ok (.iconst (-1), 1) := by decide +kernel
theorem dX5_sell_31 : decode cX5_sell 31 = .ok (.ireturn, 1) := by decide +kernel
theorem dX5_sell_32 : decode cX5_sell 32 = .ok (.aload_n 0, 1) := by decide +kernel
theorem dX5_sell_33 : decode cX5_sell 33 = .ok (.getfield 12, 3) := by decide +kernel
theorem dX5_sell_36 : decode cX5_sell 36 = .ok (.iload_n 1, 1) := by decide +kernel
theorem dX5_sell_37 : decode cX5_sell 37 = .ok (.iload_n 2, 1) := by decide +kernel
theorem dX5_sell_38 : decode cX5_sell 38 = .ok (.iload_n 3, 1) := by decide +kernel
theorem dX5_sell_39 : decode cX5_sell 39 = .ok (.iload 4, 2) := by decide +kernel
theorem dX5_sell_41 : decode cX5_sell 41 = .ok (.invokevirtual 157, 3) := by decide +kernel
theorem dX5_sell_44 : decode cX5_sell 44 = .ok (.ifCond .ne 6, 3) := by decide +kernel
theorem dX5_sell_47 : decode cX5_sell 47 = .ok (.bipush (-2), 2) := by decide +kernel
theorem dX5_sell_49 : decode cX5_sell 49 = .ok (.ireturn, 1) := by decide +kernel
theorem dX5_sell_50 : decode cX5_sell 50 = .ok (.aload_n 0, 1) := by decide +kernel
theorem dX5_sell_51 : decode cX5_sell 51 = .ok (.getfield 19, 3) := by decide +kernel
theorem dX5_sell_54 : decode cX5_sell 54 = .ok (.aload_n 0, 1) := by decide +kernel
theorem dX5_sell_55 : decode cX5_sell 55 = .ok (.getfield 12, 3) := by decide +kernel
theorem dX5_sell_58 : decode cX5_sell 58 = .ok (.getfield 79, 3) := by decide +kernel
theorem dX5_sell_61 : decode cX5_sell 61 = .ok (.invokevirtual 161, 3) := by decide +kernel
theorem dX5_sell_64 : decode cX5_sell 64 = .ok (.aload_n 0, 1) := by decide +kernel
theorem dX5_sell_65 : decode cX5_sell 65 = .ok (.getfield 12, 3) := by decide +kernel
theorem dX5_sell_68 : decode cX5_sell 68 = .ok (.getfield 79, 3) := by decide +kernel
theorem dX5_sell_71 : decode cX5_sell 71 = .ok (.iload_n 1, 1) := by decide +kernel
theorem dX5_sell_72 : decode cX5_sell 72 = .ok (.iload_n 2, 1) := by decide +kernel
theorem dX5_sell_73 : decode cX5_sell 73 = .ok (.iload_n 3, 1) := by decide +kernel
theorem dX5_sell_74 : decode cX5_sell 74 = .ok (.invokevirtual 165, 3) := by decide +kernel
theorem dX5_sell_77 : decode cX5_sell 77 = .ok (.aload_n 0, 1) := by decide +kernel
theorem dX5_sell_78 : decode cX5_sell 78 = .ok (.getfield 12, 3) := by decide +kernel
theorem dX5_sell_81 : decode cX5_sell 81 = .ok (.getfield 79, 3) := by decide +kernel
theorem dX5_sell_84 : decode cX5_sell 84 = .ok (.iload_n 2, 1) := by decide +kernel
theorem dX5_sell_85 : decode cX5_sell 85 = .ok (.iload_n 1, 1) := by decide +kernel
theorem dX5_sell_86 : decode cX5_sell 86 = .ok (.iload 4, 2) := by decide +kernel
theorem dX5_sell_88 : decode cX5_sell 88 = .ok (.invokevirtual 169, 3) := by decide +kernel
theorem dX5_sell_91 : decode cX5_sell 91 = .ok (.aload_n 0, 1) := by decide +kernel
theorem dX5_sell_92 : decode cX5_sell 92 = .ok (.getfield 12, 3) := by decide +kernel
theorem dX5_sell_95 : decode cX5_sell 95 = .ok (.getfield 79, 3) := by decide +kernel
theorem dX5_sell_98 : decode cX5_sell 98 = .ok (.getfield 83, 3) := by decide +kernel
theorem dX5_sell_101 : decode cX5_sell 101 = .ok (.iload_n 1, 1) := by decide +kernel
theorem dX5_sell_102 : decode cX5_sell 102 = .ok (.iaload, 1) := by decide +kernel
theorem dX5_sell_103 : decode cX5_sell 103 = .ok (.ireturn, 1) := by decide +kernel
theorem dX5_seize_0 : decode cX5_seize 0 = .ok (.aload_n 0, 1) := by decide +kernel
theorem dX5_seize_1 : decode cX5_seize 1 = .ok (.getfield 12, 3) := by decide +kernel
theorem dX5_seize_4 : decode cX5_seize 4 = .ok (.iload_n 1, 1) := by decide +kernel
theorem dX5_seize_5 : decode cX5_seize 5 = .ok (.iload_n 2, 1) := by decide +kernel
theorem dX5_seize_6 : decode cX5_seize 6 = .ok (.invokevirtual 154, 3) := by decide +kernel
theorem dX5_seize_9 : decode cX5_seize 9 = .ok (.ifCond .ne 5, 3) := by decide +kernel
theorem dX5_seize_12 : decode cX5_seize 12 = .ok (.iconst (-1), 1) := by decide +kernel
theorem dX5_seize_13 : decode cX5_seize 13 = .ok (.ireturn, 1) := by decide +kernel
theorem dX5_seize_14 : decode cX5_seize 14 = .ok (.aload_n 0, 1) := by decide +kernel
theorem dX5_seize_15 : decode cX5_seize 15 = .ok (.getfield 12, 3) := by decide +kernel
theorem dX5_seize_18 : decode cX5_seize 18 = .ok (.iload_n 1, 1) := by decide +kernel
theorem dX5_seize_19 : decode cX5_seize 19 = .ok (.invokevirtual 172, 3) := by decide +kernel
theorem dX5_seize_22 : decode cX5_seize 22 = .ok (.istore_n 3, 1) := by decide +kernel
theorem dX5_seize_23 : decode cX5_seize 23 = .ok (.iload_n 3, 1) := by decide +kernel
theorem dX5_seize_24 : decode cX5_seize 24 = .ok (.bipush (-4), 2) := by decide +kernel
theorem dX5_seize_26 : decode cX5_seize 26 = .ok (.if_icmp .ne 6, 3) := by decide +kernel
theorem dX5_seize_29 : decode cX5_seize 29 = .ok (.bipush (-2), 2) := by decide +kernel
theorem dX5_seize_31 : decode cX5_seize 31 = .ok (.ireturn, 1) := by decide +kernel
theorem dX5_seize_32 : decode cX5_seize 32 = .ok (.aload_n 0, 1) := by decide +kernel
theorem dX5_seize_33 : decode cX5_seize 33 = .ok (.getfield 19, 3) := by decide +kernel
theorem dX5_seize_36 : decode cX5_seize 36 = .ok (.aload_n 0, 1) := by decide +kernel
theorem dX5_seize_37 : decode cX5_seize 37 = .ok (.getfield 12, 3) := by decide +kernel
theorem dX5_seize_40 : decode cX5_seize 40 = .ok (.getfield 79, 3) := by decide +kernel
theorem dX5_seize_43 : decode cX5_seize 43 = .ok (.invokevirtual 161, 3) := by decide +kernel
theorem dX5_seize_46 : decode cX5_seize 46 = .ok (.aload_n 0, 1) := by decide +kernel
theorem dX5_seize_47 : decode cX5_seize 47 = .ok (.getfield 12, 3) := by decide +kernel
theorem dX5_seize_50 : decode cX5_seize 50 = .ok (.getfield 79, 3) := by decide +kernel
theorem dX5_seize_53 : decode cX5_seize 53 = .ok (.iload_n 1, 1) := by decide +kernel
theorem dX5_seize_54 : decode cX5_seize 54 = .ok (.iload_n 2, 1) := by decide +kernel
theorem dX5_seize_55 : decode cX5_seize 55 = .ok (.iload_n 3, 1) := by decide +kernel
theorem dX5_seize_56 : decode cX5_seize 56 = .ok (.invokevirtual 165, 3) := by decide +kernel
theorem dX5_seize_59 : decode cX5_seize 59 = .ok (.iload_n 3, 1) := by decide +kernel
theorem dX5_seize_60 : decode cX5_seize 60 = .ok (.ireturn, 1) := by decide +kernel
theorem dX5_give_0 : decode cX5_give 0 = .ok (.aload_n 0, 1) := by decide +kernel
theorem dX5_give_1 : decode cX5_give 1 = .ok (.getfield 12, 3) := by decide +kernel
theorem dX5_give_4 : decode cX5_give 4 = .ok (.iload_n 1, 1) := by decide +kernel
theorem dX5_give_5 : decode cX5_give 5 = .ok (.iload_n 2, 1) := by decide +kernel
theorem dX5_give_6 : decode cX5_give 6 = .ok (.invokevirtual 154, 3) := by decide +kernel
theorem dX5_give_9 : decode cX5_give 9 = .ok (.ifCond .eq 13, 3) := by decide +kernel
theorem dX5_give_12 : decode cX5_give 12 = .ok (.iload_n 3, 1) := by decide +kernel
theorem dX5_give_13 : decode cX5_give 13 = .ok (.iconst 1, 1) := by decide +kernel
theorem dX5_give_14 : decode cX5_give 14 = .ok (.bipush 99, 2) := by decide +kernel
theorem dX5_give_16 : decode cX5_give 16 = .ok (.invokestatic 50, 3) := by decide +kernel
theorem dX5_give_19 : decode cX5_give 19 = .ok (.ifCond .ne 5, 3) := by decide +kernel
theorem dX5_give_22 : decode cX5_give 22 = .ok (.iconst (-1), 1) := by decide +kernel
theorem dX5_give_23 : decode cX5_give 23 = .ok (.ireturn, 1) := by decide +kernel
theorem dX5_give_24 : decode cX5_give 24 = .ok (.aload_n 0, 1) := by decide +kernel
theorem dX5_give_25 : decode cX5_give 25 = .ok (.getfield 12, 3) := by decide +kernel
theorem dX5_give_28 : decode cX5_give 28 = .ok (.getfield 79, 3) := by decide +kernel
theorem dX5_give_31 : decode cX5_give 31 = .ok (.getfield 83, 3) := by decide +kernel
theorem dX5_give_34 : decode cX5_give 34 = .ok (.iload_n 1, 1) := by decide +kernel
theorem dX5_give_35 : decode cX5_give 35 = .ok (.iaload, 1) := by decide +kernel
theorem dX5_give_36 : decode cX5_give 36 = .ok (.iload_n 3, 1) := by decide +kernel
theorem dX5_give_37 : decode cX5_give 37 = .ok (.if_icmp .ge 6, 3) := by decide +kernel
theorem dX5_give_40 : decode cX5_give 40 = .ok (.bipush (-2), 2) := by decide +kernel
theorem dX5_give_42 : decode cX5_give 42 = .ok (.ireturn, 1) := by decide +kernel
theorem dX5_give_43 : decode cX5_give 43 = .ok (.aload_n 0, 1) := by decide +kernel
theorem dX5_give_44 : decode cX5_give 44 = .ok (.getfield 19, 3) := by decide +kernel
theorem dX5_give_47 : decode cX5_give 47 = .ok (.aload_n 0, 1) := by decide +kernel
theorem dX5_give_48 : decode cX5_give 48 = .ok (.getfield 12, 3) := by decide +kernel
theorem dX5_give_51 : decode cX5_give 51 = .ok (.getfield 79, 3) := by decide +kernel
theorem dX5_give_54 : decode cX5_give 54 = .ok (.invokevirtual 161, 3) := by decide +kernel
theorem dX5_give_57 : decode cX5_give 57 = .ok (.aload_n 0, 1) := by decide +kernel
theorem dX5_give_58 : decode cX5_give 58 = .ok (.getfield 12, 3) := by decide +kernel
theorem dX5_give_61 : decode cX5_give 61 = .ok (.getfield 79, 3) := by decide +kernel
theorem dX5_give_64 : decode cX5_give 64 = .ok (.iload_n 1, 1) := by decide +kernel
theorem dX5_give_65 : decode cX5_give 65 = .ok (.iload_n 2, 1) := by decide +kernel
theorem dX5_give_66 : decode cX5_give 66 = .ok (.iload_n 3, 1) := by decide +kernel
theorem dX5_give_67 : decode cX5_give 67 = .ok (.invokevirtual 169, 3) := by decide +kernel
theorem dX5_give_70 : decode cX5_give 70 = .ok (.aload_n 0, 1) := by decide +kernel
theorem dX5_give_71 : decode cX5_give 71 = .ok (.getfield 12, 3) := by decide +kernel
theorem dX5_give_74 : decode cX5_give 74 = .ok (.getfield 79, 3) := by decide +kernel
theorem dX5_give_77 : decode cX5_give 77 = .ok (.getfield 83, 3) := by decide +kernel
theorem dX5_give_80 : decode cX5_give 80 = .ok (.iload_n 1, 1) := by decide +kernel
theorem dX5_give_81 : decode cX5_give 81 = .ok (.iaload, 1) := by decide +kernel
theorem dX5_give_82 : decode cX5_give 82 = .ok (.ireturn, 1) := by decide +kernel
theorem dX5_make_0 : decode cX5_make 0 = .ok (.iload_n 1, 1) := by decide +kernel
theorem dX5_make_1 : decode cX5_make 1 = .ok (.invokestatic 110, 3) := by decide +kernel
theorem dX5_make_4 : decode cX5_make 4 = .ok (.ifCond .eq 17, 3) := by decide +kernel
theorem dX5_make_7 : decode cX5_make 7 = .ok (.iload_n 2, 1) := by decide +kernel
theorem dX5_make_8 : decode cX5_make 8 = .ok (.invokestatic 101, 3) := by decide +kernel
theorem dX5_make_11 : decode cX5_make 11 = .ok (.ifCond .eq 10, 3) := by decide +kernel
theorem dX5_make_14 : decode cX5_make 14 = .ok (.iload_n 3, 1) := by decide +kernel
theorem dX5_make_15 : decode cX5_make 15 = .ok (.invokestatic 101, 3) := by decide +kernel
theorem dX5_make_18 : decode cX5_make 18 = .ok (.ifCond .ne 5, 3) := by decide +kernel
theorem dX5_make_21 : decode cX5_make 21 = .ok (.iconst (-1), 1) := by decide +kernel
theorem dX5_make_22 : decode cX5_make 22 = .ok (.ireturn, 1) := by decide +kernel
theorem dX5_make_23 : decode cX5_make 23 = .ok (.aload_n 0, 1) := by decide +kernel
theorem dX5_make_24 : decode cX5_make 24 = .ok (.getfield 12, 3) := by decide +kernel
theorem dX5_make_27 : decode cX5_make 27 = .ok (.getfield 79, 3) := by decide +kernel
theorem dX5_make_30 : decode cX5_make 30 = .ok (.astore 4, 2) := by decide +kernel
theorem dX5_make_32 : decode cX5_make 32 = .ok (.iload_n 2, 1) := by decide +kernel
theorem dX5_make_33 : decode cX5_make 33 = .ok (.ifCond .ne 11, 3) := by decide +kernel
theorem dX5_make_36 : decode cX5_make 36 = .ok (.aload 4, 2) := by decide +kernel
theorem dX5_make_38 : decode cX5_make 38 = .ok (.getfield 113, 3) := by decide +kernel
theorem dX5_make_41 : decode cX5_make 41 = .ok (.goto 8, 3) := by decide +kernel
theorem dX5_make_44 : decode cX5_make 44 = .ok (.aload 4, 2) := by decide +kernel
theorem dX5_make_46 : decode cX5_make 46 = .ok (.getfield 116, 3) := by decide +kernel
theorem dX5_make_49 : decode cX5_make 49 = .ok (.istore 5, 2) := by decide +kernel
theorem dX5_make_51 : decode cX5_make 51 = .ok (.iload 5, 2) := by decide +kernel
theorem dX5_make_53 : decode cX5_make 53 = .ok (.iload_n 1, 1) := by decide +kernel
theorem dX5_make_54 : decode cX5_make 54 = .ok (.invokestatic 119, 3) := by decide +kernel
theorem dX5_make_57 : decode cX5_make 57 = .ok (.iload_n 3, 1) := by decide +kernel
theorem dX5_make_58 : decode cX5_make 58 = .ok (.iconst 1, 1) := by decide +kernel
theorem dX5_make_59 : decode cX5_make 59 = .ok (.if_icmp .ne 7, 3) := by decide +kernel
theorem dX5_make_62 : decode cX5_make 62 = .ok (.iconst 1, 1) := by decide +kernel
theorem dX5_make_63 : decode cX5_make 63 = .ok (.goto 4, 3) := by decide +kernel
theorem dX5_make_66 : decode cX5_make 66 = .ok (.iconst 0, 1) := by decide +kernel
theorem dX5_make_67 : decode cX5_make 67 = .ok (.if_icmp .ne 6, 3) := by decide +kernel
theorem dX5_make_70 : decode cX5_make 70 = .ok (.bipush (-2), 2) := by decide +kernel
theorem dX5_make_72 : decode cX5_make 72 = .ok (.ireturn, 1) := by decide +kernel
theorem dX5_make_73 : decode cX5_make 73 = .ok (.aload_n 0, 1) := by decide +kernel
theorem dX5_make_74 : decode cX5_make 74 = .ok (.getfield 19, 3) := by decide +kernel
theorem dX5_make_77 : decode cX5_make 77 = .ok (.aload 4, 2) := by decide +kernel
theorem dX5_make_79 : decode cX5_make 79 = .ok (.invokevirtual 161, 3) := by decide +kernel
theorem dX5_make_82 : decode cX5_make 82 = .ok (.iload 5, 2) := by decide +kernel
theorem dX5_make_84 : decode cX5_make 84 = .ok (.iconst 1, 1) := by decide +kernel
theorem dX5_make_85 : decode cX5_make 85 = .ok (.iload_n 1, 1) := by decide +kernel
theorem dX5_make_86 : decode cX5_make 86 = .ok (.ishl, 1) := by decide +kernel
theorem dX5_make_87 : decode cX5_make 87 = .ok (.ixor, 1) := by decide +kernel
theorem dX5_make_88 : decode cX5_make 88 = .ok (.istore 6, 2) := by decide +kernel
theorem dX5_make_90 : decode cX5_make 90 = .ok (.iload_n 2, 1) := by decide +kernel
theorem dX5_make_91 : decode cX5_make 91 = .ok (.ifCond .ne 13, 3) := by decide +kernel
theorem dX5_make_94 : decode cX5_make 94 = .ok (.aload 4, 2) := by decide +kernel
theorem dX5_make_96 : decode cX5_make 96 = .ok (.iload 6, 2) := by decide +kernel
theorem dX5_make_98 : decode cX5_make 98 = .ok (.putfield 113, 3) := by decide +kernel
theorem dX5_make_101 : decode cX5_make 101 = .ok (.goto 10, 3) := by decide +kernel
theorem dX5_make_104 : decode cX5_make 104 = .ok (.aload 4, 2) := by decide +kernel
theorem dX5_make_106 : decode cX5_make 106 = .ok (.iload 6, 2) := by decide +kernel
theorem dX5_make_108 : decode cX5_make 108 = .ok (.putfield 116, 3) := by decide +kernel
theorem dX5_make_111 : decode cX5_make 111 = .ok (.iload 6, 2) := by decide +kernel
theorem dX5_make_113 : decode cX5_make 113 = .ok (.ireturn, 1) := by decide +kernel
theorem dX5_drift_0 : decode cX5_drift 0 = .ok (.iload_n 1, 1) := by decide +kernel
theorem dX5_drift_1 : decode cX5_drift 1 = .ok (.iconst 1, 1) := by decide +kernel
theorem dX5_drift_2 : decode cX5_drift 2 = .ok (.bipush 40, 2) := by decide +kernel
theorem dX5_drift_4 : decode cX5_drift 4 = .ok (.invokestatic 50, 3) := by decide +kernel
theorem dX5_drift_7 : decode cX5_drift 7 = .ok (.ifCond .ne 5, 3) := by decide +kernel
theorem dX5_drift_10 : decode cX5_drift 10 = .ok (.iconst (-1), 1) := by decide +kernel
theorem dX5_drift_11 : decode cX5_drift 11 = .ok (.ireturn, 1) := by decide +kernel
theorem dX5_drift_12 : decode cX5_drift 12 = .ok (.iconst 0, 1) := by decide +kernel
theorem dX5_drift_13 : decode cX5_drift 13 = .ok (.istore_n 2, 1) := by decide +kernel
theorem dX5_drift_14 : decode cX5_drift 14 = .ok (.iload_n 2, 1) := by decide +kernel
theorem dX5_drift_15 : decode cX5_drift 15 = .ok (.iload_n 1, 1) := by decide +kernel
theorem dX5_drift_16 : decode cX5_drift 16 = .ok (.if_icmp .ge 30, 3) := by decide +kernel
theorem dX5_drift_19 : decode cX5_drift 19 = .ok (.aload_n 0, 1) := by decide +kernel
theorem dX5_drift_20 : decode cX5_drift 20 = .ok (.getfield 19, 3) := by decide +kernel
theorem dX5_drift_23 : decode cX5_drift 23 = .ok (.aload_n 0, 1) := by decide +kernel
theorem dX5_drift_24 : decode cX5_drift 24 = .ok (.getfield 12, 3) := by decide +kernel
theorem dX5_drift_27 : decode cX5_drift 27 = .ok (.getfield 79, 3) := by decide +kernel
theorem dX5_drift_30 : decode cX5_drift 30 = .ok (.invokevirtual 161, 3) := by decide +kernel
theorem dX5_drift_33 : decode cX5_drift 33 = .ok (.aload_n 0, 1) := by decide +kernel
theorem dX5_drift_34 : decode cX5_drift 34 = .ok (.getfield 12, 3) := by decide +kernel
theorem dX5_drift_37 : decode cX5_drift 37 = .ok (.invokevirtual 175, 3) := by decide +kernel
theorem dX5_drift_40 : decode cX5_drift 40 = .ok (.iinc 2 1, 3) := by decide +kernel
theorem dX5_drift_43 : decode cX5_drift 43 = .ok (.goto (-29), 3) := by decide +kernel
theorem dX5_drift_46 : decode cX5_drift 46 = .ok (.aload_n 0, 1) := by decide +kernel
theorem dX5_drift_47 : decode cX5_drift 47 = .ok (.getfield 12, 3) := by decide +kernel
theorem dX5_drift_50 : decode cX5_drift 50 = .ok (.invokevirtual 144, 3) := by decide +kernel
theorem dX5_drift_53 : decode cX5_drift 53 = .ok (.ireturn, 1) := by decide +kernel
theorem dX5_undo_0 : decode cX5_undo 0 = .ok (.aload_n 0, 1) := by decide +kernel
theorem dX5_undo_1 : decode cX5_undo 1 = .ok (.getfield 19, 3) := by decide +kernel
theorem dX5_undo_4 : decode cX5_undo 4 = .ok (.getfield 151, 3) := by decide +kernel
theorem dX5_undo_7 : decode cX5_undo 7 = .ok (.ifCond .ne 6, 3) := by decide +kernel
theorem dX5_undo_10 : decode cX5_undo 10 = .ok (.bipush (-4), 2) := by decide +kernel
theorem dX5_undo_12 : decode cX5_undo 12 = .ok (.ireturn, 1) := by decide +kernel
theorem dX5_undo_13 : decode cX5_undo 13 = .ok (.aload_n 0, 1) := by decide +kernel
theorem dX5_undo_14 : decode cX5_undo 14 = .ok (.getfield 19, 3) := by decide +kernel
theorem dX5_undo_17 : decode cX5_undo 17 = .ok (.aload_n 0, 1) := by decide +kernel
theorem dX5_undo_18 : decode cX5_undo 18 = .ok (.getfield 12, 3) := by decide +kernel
theorem dX5_undo_21 : decode cX5_undo 21 = .ok (.getfield 79, 3) := by decide +kernel
theorem dX5_undo_24 : decode cX5_undo 24 = .ok (.invokevirtual 178, 3) := by decide +kernel
theorem dX5_undo_27 : decode cX5_undo 27 = .ok (.aload_n 0, 1) := by decide +kernel
theorem dX5_undo_28 : decode cX5_undo 28 = .ok (.getfield 19, 3) := by decide +kernel
theorem dX5_undo_31 : decode cX5_undo 31 = .ok (.getfield 151, 3) := by decide +kernel
theorem dX5_undo_34 : decode cX5_undo 34 = .ok (.ireturn, 1) := by decide +kernel
theorem dX5_seed_0 : decode cX5_seed 0 = .ok (.iload_n 1, 1) := by decide +kernel
theorem dX5_seed_1 : decode cX5_seed 1 = .ok (.ifCond .ge 5, 3) := by decide +kernel
theorem dX5_seed_4 : decode cX5_seed 4 = .ok (.iconst (-1), 1) := by decide +kernel
theorem dX5_seed_5 : decode cX5_seed 5 = .ok (.ireturn, 1) := by decide +kernel
theorem dX5_seed_6 : decode cX5_seed 6 = .ok (.aload_n 0, 1) := by decide +kernel
theorem dX5_seed_7 : decode cX5_seed 7 = .ok (.getfield 12, 3) := by decide +kernel
theorem dX5_seed_10 : decode cX5_seed 10 = .ok (.getfield 79, 3) := by decide +kernel
theorem dX5_seed_13 : decode cX5_seed 13 = .ok (.getfield 181, 3) := by decide +kernel
theorem dX5_seed_16 : decode cX5_seed 16 = .ok (.istore_n 2, 1) := by decide +kernel
theorem dX5_seed_17 : decode cX5_seed 17 = .ok (.aload_n 0, 1) := by decide +kernel
theorem dX5_seed_18 : decode cX5_seed 18 = .ok (.getfield 12, 3) := by decide +kernel
theorem dX5_seed_21 : decode cX5_seed 21 = .ok (.getfield 79, 3) := by decide +kernel
theorem dX5_seed_24 : decode cX5_seed 24 = .ok (.iload_n 1, 1) := by decide +kernel
theorem dX5_seed_25 : decode cX5_seed 25 = .ok (.putfield 181, 3) := by decide +kernel
theorem dX5_seed_28 : decode cX5_seed 28 = .ok (.iload_n 2, 1) := by decide +kernel
theorem dX5_seed_29 : decode cX5_seed 29 = .ok (.ireturn, 1) := by decide +kernel
theorem dX5_gain_0 : decode cX5_gain 0 = .ok (.aload_n 0, 1) := by decide +kernel
theorem dX5_gain_1 : decode cX5_gain 1 = .ok (.getfield 12, 3) := by decide +kernel
theorem dX5_gain_4 : decode cX5_gain 4 = .ok (.iload_n 1, 1) := by decide +kernel
theorem dX5_gain_5 : decode cX5_gain 5 = .ok (.iload_n 2, 1) := by decide +kernel
theorem dX5_gain_6 : decode cX5_gain 6 = .ok (.invokevirtual 154, 3) := by decide +kernel
theorem dX5_gain_9 : decode cX5_gain 9 = .ok (.ifCond .eq 10, 3) := by decide +kernel
theorem dX5_gain_12 : decode cX5_gain 12 = .ok (.iload_n 3, 1) := by decide +kernel
theorem dX5_gain_13 : decode cX5_gain 13 = .ok (.invokestatic 98, 3) := by decide +kernel
theorem dX5_gain_16 : decode cX5_gain 16 = .ok (.ifCond .ne 5, 3) := by decide +kernel
theorem dX5_gain_19 : decode cX5_gain 19 = .ok (.iconst (-1), 1) := by decide +kernel
theorem dX5_gain_20 : decode cX5_gain 20 = .ok (.ireturn, 1) := by decide +kernel
theorem dX5_gain_21 : decode cX5_gain 21 = .ok (.aload_n 0, 1) := by decide +kernel
theorem dX5_gain_22 : decode cX5_gain 22 = .ok (.getfield 12, 3) := by decide +kernel
theorem dX5_gain_25 : decode cX5_gain 25 = .ok (.getfield 79, 3) := by decide +kernel
theorem dX5_gain_28 : decode cX5_gain 28 = .ok (.iload_n 1, 1) := by decide +kernel
theorem dX5_gain_29 : decode cX5_gain 29 = .ok (.iload_n 3, 1) := by decide +kernel
theorem dX5_gain_30 : decode cX5_gain 30 = .ok (.invokevirtual 104, 3) := by decide +kernel
theorem dX5_gain_33 : decode cX5_gain 33 = .ok (.ifCond .ne 6, 3) := by decide +kernel
theorem dX5_gain_36 : decode cX5_gain 36 = .ok (.bipush (-2), 2) := by decide +kernel
theorem dX5_gain_38 : decode cX5_gain 38 = .ok (.ireturn, 1) := by decide +kernel
theorem dX5_gain_39 : decode cX5_gain 39 = .ok (.sipush 1000, 3) := by decide +kernel
theorem dX5_gain_42 : decode cX5_gain 42 = .ok (.aload_n 0, 1) := by decide +kernel
theorem dX5_gain_43 : decode cX5_gain 43 = .ok (.getfield 12, 3) := by decide +kernel
theorem dX5_gain_46 : decode cX5_gain 46 = .ok (.iload_n 1, 1) := by decide +kernel
theorem dX5_gain_47 : decode cX5_gain 47 = .ok (.iload_n 2, 1) := by decide +kernel
theorem dX5_gain_48 : decode cX5_gain 48 = .ok (.iload_n 3, 1) := by decide +kernel
theorem dX5_gain_49 : decode cX5_gain 49 = .ok (.invokevirtual 184, 3) := by decide +kernel
theorem dX5_gain_52 : decode cX5_gain 52 = .ok (.iadd, 1) := by decide +kernel
theorem dX5_gain_53 : decode cX5_gain 53 = .ok (.ireturn, 1) := by decide +kernel
theorem dX5_middle_0 : decode cX5_middle 0 = .ok (.aload_n 0, 1) := by decide +kernel
theorem dX5_middle_1 : decode cX5_middle 1 = .ok (.getfield 12, 3) := by decide +kernel
theorem dX5_middle_4 : decode cX5_middle 4 = .ok (.iload_n 1, 1) := by decide +kernel
theorem dX5_middle_5 : decode cX5_middle 5 = .ok (.iload_n 2, 1) := by decide +kernel
theorem dX5_middle_6 : decode cX5_middle 6 = .ok (.invokevirtual 154, 3) := by decide +kernel
theorem dX5_middle_9 : decode cX5_middle 9 = .ok (.ifCond .eq 10, 3) := by decide +kernel
theorem dX5_middle_12 : decode cX5_middle 12 = .ok (.iload_n 3, 1) := by decide +kernel
theorem dX5_middle_13 : decode cX5_middle 13 = .ok (.invokestatic 98, 3) := by decide +kernel
theorem dX5_middle_16 : decode cX5_middle 16 = .ok (.ifCond .ne 5, 3) := by decide +kernel
theorem dX5_middle_19 : decode cX5_middle 19 = .ok (.iconst (-1), 1) := by decide +kernel
theorem dX5_middle_20 : decode cX5_middle 20 = .ok (.ireturn, 1) := by decide +kernel
theorem dX5_middle_21 : decode cX5_middle 21 = .ok (.aload_n 0, 1) := by decide +kernel
theorem dX5_middle_22 : decode cX5_middle 22 = .ok (.getfield 12, 3) := by decide +kernel
theorem dX5_middle_25 : decode cX5_middle 25 = .ok (.getfield 79, 3) := by decide +kernel
theorem dX5_middle_28 : decode cX5_middle 28 = .ok (.iload_n 1, 1) := by decide +kernel
theorem dX5_middle_29 : decode cX5_middle 29 = .ok (.iload_n 3, 1) := by decide +kernel
theorem dX5_middle_30 : decode cX5_middle 30 = .ok (.invokevirtual 104, 3) := by decide +kernel
theorem dX5_middle_33 : decode cX5_middle 33 = .ok (.ifCond .ne 6, 3) := by decide +kernel
theorem dX5_middle_36 : decode cX5_middle 36 = .ok (.bipush (-2), 2) := by decide +kernel
theorem dX5_middle_38 : decode cX5_middle 38 = .ok (.ireturn, 1) := by decide +kernel
theorem dX5_middle_39 : decode cX5_middle 39 = .ok (.aload_n 0, 1) := by decide +kernel
theorem dX5_middle_40 : decode cX5_middle 40 = .ok (.getfield 12, 3) := by decide +kernel
theorem dX5_middle_43 : decode cX5_middle 43 = .ok (.iload_n 1, 1) := by decide +kernel
theorem dX5_middle_44 : decode cX5_middle 44 = .ok (.iload_n 2, 1) := by decide +kernel
theorem dX5_middle_45 : decode cX5_middle 45 = .ok (.iload_n 3, 1) := by decide +kernel
theorem dX5_middle_46 : decode cX5_middle 46 = .ok (.invokevirtual 188, 3) := by decide +kernel
theorem dX5_middle_49 : decode cX5_middle 49 = .ok (.ireturn, 1) := by decide +kernel
theorem dX5_best_0 : decode cX5_best 0 = .ok (.iload_n 1, 1) := by decide +kernel
theorem dX5_best_1 : decode cX5_best 1 = .ok (.invokestatic 101, 3) := by decide +kernel
theorem dX5_best_4 : decode cX5_best 4 = .ok (.ifCond .ne 5, 3) := by decide +kernel
theorem dX5_best_7 : decode cX5_best 7 = .ok (.iconst (-1), 1) := by decide +kernel
theorem dX5_best_8 : decode cX5_best 8 = .ok (.ireturn, 1) := by decide +kernel
theorem dX5_best_9 : decode cX5_best 9 = .ok (.aload_n 0, 1) := by decide +kernel
theorem dX5_best_10 : decode cX5_best 10 = .ok (.getfield 12, 3) := by decide +kernel
theorem dX5_best_13 : decode cX5_best 13 = .ok (.invokevirtual 191, 3) := by decide +kernel
theorem dX5_best_16 : decode cX5_best 16 = .ok (.istore_n 2, 1) := by decide +kernel
theorem dX5_best_17 : decode cX5_best 17 = .ok (.iload_n 2, 1) := by decide +kernel
theorem dX5_best_18 : decode cX5_best 18 = .ok (.bipush (-4), 2) := by decide +kernel
theorem dX5_best_20 : decode cX5_best 20 = .ok (.if_icmp .eq 7, 3) := by decide +kernel
theorem dX5_best_23 : decode cX5_best 23 = .ok (.iload_n 1, 1) := by decide +kernel
theorem dX5_best_24 : decode cX5_best 24 = .ok (.ifCond .ne 5, 3) := by decide +kernel
theorem dX5_best_27 : decode cX5_best 27 = .ok (.iload_n 2, 1) := by decide +kernel
theorem dX5_best_28 : decode cX5_best 28 = .ok (.ireturn, 1) := by decide +kernel
theorem dX5_best_29 : decode cX5_best 29 = .ok (.aload_n 0, 1) := by decide +kernel
theorem dX5_best_30 : decode cX5_best 30 = .ok (.getfield 12, 3) := by decide +kernel
theorem dX5_best_33 : decode cX5_best 33 = .ok (.iload_n 2, 1) := by decide +kernel
theorem dX5_best_34 : decode cX5_best 34 = .ok (.invokestatic 194, 3) := by decide +kernel
theorem dX5_best_37 : decode cX5_best 37 = .ok (.iload_n 2, 1) := by decide +kernel
theorem dX5_best_38 : decode cX5_best 38 = .ok (.invokestatic 197, 3) := by decide +kernel
theorem dX5_best_41 : decode cX5_best 41 = .ok (.iload_n 2, 1) := by decide +kernel
theorem dX5_best_42 : decode cX5_best 42 = .ok (.invokestatic 200, 3) := by decide +kernel
theorem dX5_best_45 : decode cX5_best 45 = .ok (.invokevirtual 184, 3) := by decide +kernel
theorem dX5_best_48 : decode cX5_best 48 = .ok (.ireturn, 1) := by decide +kernel
theorem dX5_market_0 : decode cX5_market 0 = .ok (.iload_n 1, 1) := by decide +kernel
theorem dX5_market_1 : decode cX5_market 1 = .ok (.invokestatic 101, 3) := by decide +kernel
theorem dX5_market_4 : decode cX5_market 4 = .ok (.ifCond .ne 5, 3) := by decide +kernel
theorem dX5_market_7 : decode cX5_market 7 = .ok (.iconst (-1), 1) := by decide +kernel
theorem dX5_market_8 : decode cX5_market 8 = .ok (.ireturn, 1) := by decide +kernel
theorem dX5_market_9 : decode cX5_market 9 = .ok (.aload_n 0, 1) := by decide +kernel
theorem dX5_market_10 : decode cX5_market 10 = .ok (.getfield 33, 3) := by decide +kernel
theorem dX5_market_13 : decode cX5_market 13 = .ok (.aload_n 0, 1) := by decide +kernel
theorem dX5_market_14 : decode cX5_market 14 = .ok (.getfield 12, 3) := by decide +kernel
theorem dX5_market_17 : decode cX5_market 17 = .ok (.invokevirtual 130, 3) := by decide +kernel
theorem dX5_market_20 : decode cX5_market 20 = .ok (.iconst 0, 1) := by decide +kernel
theorem dX5_market_21 : decode cX5_market 21 = .ok (.istore_n 2, 1) := by decide +kernel
theorem dX5_market_22 : decode cX5_market 22 = .ok (.aload_n 0, 1) := by decide +kernel
theorem dX5_market_23 : decode cX5_market 23 = .ok (.getfield 33, 3) := by decide +kernel
theorem dX5_market_26 : decode cX5_market 26 = .ok (.invokevirtual 191, 3) := by decide +kernel
theorem dX5_market_29 : decode cX5_market 29 = .ok (.istore_n 3, 1) := by decide +kernel
theorem dX5_market_30 : decode cX5_market 30 = .ok (.iload_n 3, 1) := by decide +kernel
theorem dX5_market_31 : decode cX5_market 31 = .ok (.bipush (-4), 2) := by decide +kernel
theorem dX5_market_33 : decode cX5_market 33 = .ok (.if_icmp .eq 45, 3) := by decide +kernel
theorem dX5_market_36 : decode cX5_market 36 = .ok (.iload_n 2, 1) := by decide +kernel
theorem dX5_market_37 : decode cX5_market 37 = .ok (.ldc 203, 2) := by decide +kernel
theorem dX5_market_39 : decode cX5_market 39 = .ok (.if_icmp .ge 39, 3) := by decide +kernel
theorem dX5_market_42 : decode cX5_market 42 = .ok (.aload_n 0, 1) := by decide +kernel
theorem dX5_market_43 : decode cX5_market 43 = .ok (.getfield 33, 3) := by decide +kernel
theorem dX5_market_46 : decode cX5_market 46 = .ok (.getfield 79, 3) := by decide +kernel
theorem dX5_market_49 : decode cX5_market 49 = .ok (.iload_n 3, 1) := by decide +kernel
theorem dX5_market_50 : decode cX5_market 50 = .ok (.invokestatic 194, 3) := by decide +kernel
theorem dX5_market_53 : decode cX5_market 53 = .ok (.iload_n 3, 1) := by decide +kernel
theorem dX5_market_54 : decode cX5_market 54 = .ok (.invokestatic 197, 3) := by decide +kernel
theorem dX5_market_57 : decode cX5_market 57 = .ok (.iload_n 3, 1) := by decide +kernel
theorem dX5_market_58 : decode cX5_market 58 = .ok (.invokestatic 200, 3) := by decide +kernel
theorem dX5_market_61 : decode cX5_market 61 = .ok (.invokevirtual 165, 3) := by decide +kernel
theorem dX5_market_64 : decode cX5_market 64 = .ok (.iinc 2 1, 3) := by decide +kernel
theorem dX5_market_67 : decode cX5_market 67 = .ok (.aload_n 0, 1) := by decide +kernel
theorem dX5_market_68 : decode cX5_market 68 = .ok (.getfield 33, 3) := by decide +kernel
theorem dX5_market_71 : decode cX5_market 71 = .ok (.invokevirtual 191, 3) := by decide +kernel
theorem dX5_market_74 : decode cX5_market 74 = .ok (.istore_n 3, 1) := by decide +kernel
theorem dX5_market_75 : decode cX5_market 75 = .ok (.goto (-45), 3) := by decide +kernel
theorem dX5_market_78 : decode cX5_market 78 = .ok (.iload_n 1, 1) := by decide +kernel
theorem dX5_market_79 : decode cX5_market 79 = .ok (.ifCond .ne 7, 3) := by decide +kernel
theorem dX5_market_82 : decode cX5_market 82 = .ok (.iload_n 2, 1) := by decide +kernel
theorem dX5_market_83 : decode cX5_market 83 = .ok (.goto 10, 3) := by decide +kernel
theorem dX5_market_86 : decode cX5_market 86 = .ok (.aload_n 0, 1) := by decide +kernel
theorem dX5_market_87 : decode cX5_market 87 = .ok (.getfield 33, 3) := by decide +kernel
theorem dX5_market_90 : decode cX5_market 90 = .ok (.invokevirtual 144, 3) := by decide +kernel
theorem dX5_market_93 : decode cX5_market 93 = .ok (.ireturn, 1) := by decide +kernel
theorem dX5_longest_0 : decode cX5_longest 0 = .ok (.aload_n 0, 1) := by decide +kernel
theorem dX5_longest_1 : decode cX5_longest 1 = .ok (.getfield 12, 3) := by decide +kernel
theorem dX5_longest_4 : decode cX5_longest 4 = .ok (.iload_n 1, 1) := by decide +kernel
theorem dX5_longest_5 : decode cX5_longest 5 = .ok (.invokevirtual 65, 3) := by decide +kernel
theorem dX5_longest_8 : decode cX5_longest 8 = .ok (.ifCond .eq 10, 3) := by decide +kernel
theorem dX5_longest_11 : decode cX5_longest 11 = .ok (.iload_n 2, 1) := by decide +kernel
theorem dX5_longest_12 : decode cX5_longest 12 = .ok (.invokestatic 101, 3) := by decide +kernel
theorem dX5_longest_15 : decode cX5_longest 15 = .ok (.ifCond .ne 5, 3) := by decide +kernel
theorem dX5_longest_18 : decode cX5_longest 18 = .ok (.iconst (-1), 1) := by decide +kernel
theorem dX5_longest_19 : decode cX5_longest 19 = .ok (.ireturn, 1) := by decide +kernel
theorem dX5_longest_20 : decode cX5_longest 20 = .ok (.aload_n 0, 1) := by decide +kernel
theorem dX5_longest_21 : decode cX5_longest 21 = .ok (.getfield 12, 3) := by decide +kernel
theorem dX5_longest_24 : decode cX5_longest 24 = .ok (.getfield 79, 3) := by decide +kernel
theorem dX5_longest_27 : decode cX5_longest 27 = .ok (.getfield 88, 3) := by decide +kernel
theorem dX5_longest_30 : decode cX5_longest 30 = .ok (.iload_n 1, 1) := by decide +kernel
theorem dX5_longest_31 : decode cX5_longest 31 = .ok (.iaload, 1) := by decide +kernel
theorem dX5_longest_32 : decode cX5_longest 32 = .ok (.istore_n 3, 1) := by decide +kernel
theorem dX5_longest_33 : decode cX5_longest 33 = .ok (.iconst 0, 1) := by decide +kernel
theorem dX5_longest_34 : decode cX5_longest 34 = .ok (.istore 4, 2) := by decide +kernel
theorem dX5_longest_36 : decode cX5_longest 36 = .ok (.bipush (-4), 2) := by decide +kernel
theorem dX5_longest_38 : decode cX5_longest 38 = .ok (.istore 5, 2) := by decide +kernel
theorem dX5_longest_40 : decode cX5_longest 40 = .ok (.iconst 0, 1) := by decide +kernel
theorem dX5_longest_41 : decode cX5_longest 41 = .ok (.istore 6, 2) := by decide +kernel
theorem dX5_longest_43 : decode cX5_longest 43 = .ok (.iload 6, 2) := by decide +kernel
theorem dX5_longest_45 : decode cX5_longest 45 = .ok (.bipush 12, 2) := by decide +kernel
theorem dX5_longest_47 : decode cX5_longest 47 = .ok (.if_icmp .ge 32, 3) := by decide +kernel
theorem dX5_longest_50 : decode cX5_longest 50 = .ok (.iload_n 3, 1) := by decide +kernel
theorem dX5_longest_51 : decode cX5_longest 51 = .ok (.iload 6, 2) := by decide +kernel
theorem dX5_longest_53 : decode cX5_longest 53 = .ok (.invokestatic 204, 3) := by decide +kernel
theorem dX5_longest_56 : decode cX5_longest 56 = .ok (.istore 7, 2) := by decide +kernel
theorem dX5_longest_58 : decode cX5_longest 58 = .ok (.iload 7, 2) := by decide +kernel
theorem dX5_longest_60 : decode cX5_longest 60 = .ok (.iload 4, 2) := by decide +kernel
theorem dX5_longest_62 : decode cX5_longest 62 = .ok (.if_icmp .le 11, 3) := by decide +kernel
theorem dX5_longest_65 : decode cX5_longest 65 = .ok (.iload 7, 2) := by decide +kernel
theorem dX5_longest_67 : decode cX5_longest 67 = .ok (.istore 4, 2) := by decide +kernel
theorem dX5_longest_69 : decode cX5_longest 69 = .ok (.iload 6, 2) := by decide +kernel
theorem dX5_longest_71 : decode cX5_longest 71 = .ok (.istore 5, 2) := by decide +kernel
theorem dX5_longest_73 : decode cX5_longest 73 = .ok (.iinc 6 1, 3) := by decide +kernel
theorem dX5_longest_76 : decode cX5_longest 76 = .ok (.goto (-33), 3) := by decide +kernel
theorem dX5_longest_79 : decode cX5_longest 79 = .ok (.iload_n 2, 1) := by decide +kernel
theorem dX5_longest_80 : decode cX5_longest 80 = .ok (.ifCond .ne 8, 3) := by decide +kernel
theorem dX5_longest_83 : decode cX5_longest 83 = .ok (.iload 4, 2) := by decide +kernel
theorem dX5_longest_85 : decode cX5_longest 85 = .ok (.goto 5, 3) := by decide +kernel
theorem dX5_longest_88 : decode cX5_longest 88 = .ok (.iload 5, 2) := by decide +kernel
theorem dX5_longest_90 : decode cX5_longest 90 = .ok (.ireturn, 1) := by decide +kernel
theorem dX5_stretch_0 : decode cX5_stretch 0 = .ok (.aload_n 0, 1) := by decide +kernel
theorem dX5_stretch_1 : decode cX5_stretch 1 = .ok (.getfield 12, 3) := by decide +kernel
theorem dX5_stretch_4 : decode cX5_stretch 4 = .ok (.iload_n 1, 1) := by decide +kernel
theorem dX5_stretch_5 : decode cX5_stretch 5 = .ok (.invokevirtual 65, 3) := by decide +kernel
theorem dX5_stretch_8 : decode cX5_stretch 8 = .ok (.ifCond .eq 20, 3) := by decide +kernel
theorem dX5_stretch_11 : decode cX5_stretch 11 = .ok (.iload_n 2, 1) := by decide +kernel
theorem dX5_stretch_12 : decode cX5_stretch 12 = .ok (.iconst 1, 1) := by decide +kernel
theorem dX5_stretch_13 : decode cX5_stretch 13 = .ok (.bipush 12, 2) := by decide +kernel
theorem dX5_stretch_15 : decode cX5_stretch 15 = .ok (.invokestatic 50, 3) := by decide +kernel
theorem dX5_stretch_18 : decode cX5_stretch 18 = .ok (.ifCond .eq 10, 3) := by decide +kernel
theorem dX5_stretch_21 : decode cX5_stretch 21 = .ok (.iload_n 3, 1) := by decide +kernel
theorem dX5_stretch_22 : decode cX5_stretch 22 = .ok (.invokestatic 101, 3) := by decide +kernel
theorem dX5_stretch_25 : decode cX5_stretch 25 = .ok (.ifCond .ne 5, 3) := by decide +kernel
theorem dX5_stretch_28 : decode cX5_stretch 28 = .ok (.iconst (-1), 1) := by decide +kernel
theorem dX5_stretch_29 : decode cX5_stretch 29 = .ok (.ireturn, 1) := by decide +kernel
theorem dX5_stretch_30 : decode cX5_stretch 30 = .ok (.sipush 4095, 3) := by decide +kernel
theorem dX5_stretch_33 : decode cX5_stretch 33 = .ok (.aload_n 0, 1) := by decide +kernel
theorem dX5_stretch_34 : decode cX5_stretch 34 = .ok (.getfield 12, 3) := by decide +kernel
theorem dX5_stretch_37 : decode cX5_stretch 37 = .ok (.getfield 79, 3) := by decide +kernel
theorem dX5_stretch_40 : decode cX5_stretch 40 = .ok (.getfield 88, 3) := by decide +kernel
theorem dX5_stretch_43 : decode cX5_stretch 43 = .ok (.iload_n 1, 1) := by decide +kernel
theorem dX5_stretch_44 : decode cX5_stretch 44 = .ok (.iaload, 1) := by decide +kernel
theorem dX5_stretch_45 : decode cX5_stretch 45 = .ok (.iconst (-1), 1) := by decide +kernel
theorem dX5_stretch_46 : decode cX5_stretch 46 = .ok (.ixor, 1) := by decide +kernel
theorem dX5_stretch_47 : decode cX5_stretch 47 = .ok (.iand, 1) := by decide +kernel
theorem dX5_stretch_48 : decode cX5_stretch 48 = .ok (.istore 4, 2) := by decide +kernel
theorem dX5_stretch_50 : decode cX5_stretch 50 = .ok (.iconst 1, 1) := by decide +kernel
theorem dX5_stretch_51 : decode cX5_stretch 51 = .ok (.iload_n 2, 1) := by decide +kernel
theorem dX5_stretch_52 : decode cX5_stretch 52 = .ok (.ishl, 1) := by decide +kernel
theorem dX5_stretch_53 : decode cX5_stretch 53 = .ok (.iconst 1, 1) := by decide +kernel
theorem dX5_stretch_54 : decode cX5_stretch 54 = .ok (.isub, 1) := by decide +kernel
theorem dX5_stretch_55 : decode cX5_stretch 55 = .ok (.istore 5, 2) := by decide +kernel
theorem dX5_stretch_57 : decode cX5_stretch 57 = .ok (.bipush 13, 2) := by decide +kernel
theorem dX5_stretch_59 : decode cX5_stretch 59 = .ok (.istore 6, 2) := by decide +kernel
theorem dX5_stretch_61 : decode cX5_stretch 61 = .ok (.iconst 0, 1) := by decide +kernel
theorem dX5_stretch_62 : decode cX5_stretch 62 = .ok (.istore 7, 2) := by decide +kernel
theorem dX5_stretch_64 : decode cX5_stretch 64 = .ok (.iconst 0, 1) := by decide +kernel
theorem dX5_stretch_65 : decode cX5_stretch 65 = .ok (.istore 8, 2) := by decide +kernel
theorem dX5_stretch_67 : decode cX5_stretch 67 = .ok (.iload 8, 2) := by decide +kernel
theorem dX5_stretch_69 : decode cX5_stretch 69 = .ok (.iload_n 2, 1) := by decide +kernel
theorem dX5_stretch_70 : decode cX5_stretch 70 = .ok (.iadd, 1) := by decide +kernel
theorem dX5_stretch_71 : decode cX5_stretch 71 = .ok (.bipush 12, 2) := by decide +kernel
theorem dX5_stretch_73 : decode cX5_stretch 73 = .ok (.if_icmp .gt 37, 3) := by decide +kernel
theorem dX5_stretch_76 : decode cX5_stretch 76 = .ok (.iload 4, 2) := by decide +kernel
theorem dX5_stretch_78 : decode cX5_stretch 78 = .ok (.iload 5, 2) := by decide +kernel
theorem dX5_stretch_80 : decode cX5_stretch 80 = .ok (.iload 8, 2) := by decide +kernel
theorem dX5_stretch_82 : decode cX5_stretch 82 = .ok (.ishl, 1) := by decide +kernel
theorem dX5_stretch_83 : decode cX5_stretch 83 = .ok (.iand, 1) := by decide +kernel
theorem dX5_stretch_84 : decode cX5_stretch 84 = .ok (.invokestatic 207, 3) := by decide +kernel
theorem dX5_stretch_87 : decode cX5_stretch 87 = .ok (.istore 9, 2) := by decide +kernel
theorem dX5_stretch_89 : decode cX5_stretch 89 = .ok (.iload 9, 2) := by decide +kernel
theorem dX5_stretch_91 : decode cX5_stretch 91 = .ok (.iload 6, 2) := by decide +kernel
theorem dX5_stretch_93 : decode cX5_stretch 93 = .ok (.if_icmp .ge 11, 3) := by decide +kernel
theorem dX5_stretch_96 : decode cX5_stretch 96 = .ok (.iload 9, 2) := by decide +kernel
theorem dX5_stretch_98 : decode cX5_stretch 98 = .ok (.istore 6, 2) := by decide +kernel
theorem dX5_stretch_100 : decode cX5_stretch 100 = .ok (.iload 8, 2) := by decide +kernel
theorem dX5_stretch_102 : decode cX5_stretch 102 = .ok (.istore 7, 2) := by decide +kernel
theorem dX5_stretch_104 : decode cX5_stretch 104 = .ok (.iinc 8 1, 3) := by decide +kernel
theorem dX5_stretch_107 : decode cX5_stretch 107 = .ok (.goto (-40), 3) := by decide +kernel
theorem dX5_stretch_110 : decode cX5_stretch 110 = .ok (.iload_n 3, 1) := by decide +kernel
theorem dX5_stretch_111 : decode cX5_stretch 111 = .ok (.ifCond .ne 8, 3) := by decide +kernel
theorem dX5_stretch_114 : decode cX5_stretch 114 = .ok (.iload 6, 2) := by decide +kernel
theorem dX5_stretch_116 : decode cX5_stretch 116 = .ok (.goto 5, 3) := by decide +kernel
theorem dX5_stretch_119 : decode cX5_stretch 119 = .ok (.iload 7, 2) := by decide +kernel
theorem dX5_stretch_121 : decode cX5_stretch 121 = .ok (.ireturn, 1) := by decide +kernel
theorem dX5_more_0 : decode cX5_more 0 = .ok (.aload_n 0, 1) := by decide +kernel
theorem dX5_more_1 : decode cX5_more 1 = .ok (.getfield 12, 3) := by decide +kernel
theorem dX5_more_4 : decode cX5_more 4 = .ok (.iload_n 1, 1) := by decide +kernel
theorem dX5_more_5 : decode cX5_more 5 = .ok (.invokevirtual 65, 3) := by decide +kernel
theorem dX5_more_8 : decode cX5_more 8 = .ok (.ifCond .eq 30, 3) := by decide +kernel
theorem dX5_more_11 : decode cX5_more 11 = .ok (.iload_n 2, 1) := by decide +kernel
theorem dX5_more_12 : decode cX5_more 12 = .ok (.iconst 0, 1) := by decide +kernel
theorem dX5_more_13 : decode cX5_more 13 = .ok (.iconst 4, 1) := by decide +kernel
theorem dX5_more_14 : decode cX5_more 14 = .ok (.invokestatic 50, 3) := by decide +kernel
theorem dX5_more_17 : decode cX5_more 17 = .ok (.ifCond .eq 21, 3) := by decide +kernel
theorem dX5_more_20 : decode cX5_more 20 = .ok (.iload_n 3, 1) := by decide +kernel
theorem dX5_more_21 : decode cX5_more 21 = .ok (.iconst 0, 1) := by decide +kernel
theorem dX5_more_22 : decode cX5_more 22 = .ok (.bipush 20, 2) := by decide +kernel
theorem dX5_more_24 : decode cX5_more 24 = .ok (.invokestatic 50, 3) := by decide +kernel
theorem dX5_more_27 : decode cX5_more 27 = .ok (.ifCond .eq 11, 3) := by decide +kernel
theorem dX5_more_30 : decode cX5_more 30 = .ok (.iload 4, 2) := by decide +kernel
theorem dX5_more_32 : decode cX5_more 32 = .ok (.invokestatic 101, 3) := by decide +kernel
theorem dX5_more_35 : decode cX5_more 35 = .ok (.ifCond .ne 5, 3) := by decide +kernel
theorem dX5_more_38 : decode cX5_more 38 = .ok (.iconst (-1), 1) := by decide +kernel
theorem dX5_more_39 : decode cX5_more 39 = .ok (.ireturn, 1) := by decide +kernel
theorem dX5_more_40 : decode cX5_more 40 = .ok (.aload_n 0, 1) := by decide +kernel
theorem dX5_more_41 : decode cX5_more 41 = .ok (.getfield 12, 3) := by decide +kernel
theorem dX5_more_44 : decode cX5_more 44 = .ok (.getfield 79, 3) := by decide +kernel
theorem dX5_more_47 : decode cX5_more 47 = .ok (.getfield 88, 3) := by decide +kernel
theorem dX5_more_50 : decode cX5_more 50 = .ok (.iload_n 1, 1) := by decide +kernel
theorem dX5_more_51 : decode cX5_more 51 = .ok (.iaload, 1) := by decide +kernel
theorem dX5_more_52 : decode cX5_more 52 = .ok (.istore 5, 2) := by decide +kernel
theorem dX5_more_54 : decode cX5_more 54 = .ok (.aload_n 0, 1) := by decide +kernel
theorem dX5_more_55 : decode cX5_more 55 = .ok (.getfield 12, 3) := by decide +kernel
theorem dX5_more_58 : decode cX5_more 58 = .ok (.iload_n 1, 1) := by decide +kernel
theorem dX5_more_59 : decode cX5_more 59 = .ok (.invokevirtual 95, 3) := by decide +kernel
theorem dX5_more_62 : decode cX5_more 62 = .ok (.istore 6, 2) := by decide +kernel
theorem dX5_more_64 : decode cX5_more 64 = .ok (.iconst 0, 1) := by decide +kernel
theorem dX5_more_65 : decode cX5_more 65 = .ok (.istore 7, 2) := by decide +kernel
theorem dX5_more_67 : decode cX5_more 67 = .ok (.iconst 1, 1) := by decide +kernel
theorem dX5_more_68 : decode cX5_more 68 = .ok (.istore 8, 2) := by decide +kernel
theorem dX5_more_70 : decode cX5_more 70 = .ok (.iload 8, 2) := by decide +kernel
theorem dX5_more_72 : decode cX5_more 72 = .ok (.sipush 4095, 3) := by decide +kernel
theorem dX5_more_75 : decode cX5_more 75 = .ok (.if_icmp .gt 68, 3) := by decide +kernel
theorem dX5_more_78 : decode cX5_more 78 = .ok (.iload 8, 2) := by decide +kernel
theorem dX5_more_80 : decode cX5_more 80 = .ok (.invokestatic 207, 3) := by decide +kernel
theorem dX5_more_83 : decode cX5_more 83 = .ok (.istore 9, 2) := by decide +kernel
theorem dX5_more_85 : decode cX5_more 85 = .ok (.iload 9, 2) := by decide +kernel
theorem dX5_more_87 : decode cX5_more 87 = .ok (.iload_n 2, 1) := by decide +kernel
theorem dX5_more_88 : decode cX5_more 88 = .ok (.if_icmp .gt 49, 3) := by decide +kernel
theorem dX5_more_91 : decode cX5_more 91 = .ok (.iload 8, 2) := by decide +kernel
theorem dX5_more_93 : decode cX5_more 93 = .ok (.iload 5, 2) := by decide +kernel
theorem dX5_more_95 : decode cX5_more 95 = .ok (.iand, 1) := by decide +kernel
theorem dX5_more_96 : decode cX5_more 96 = .ok (.ifCond .eq 6, 3) := by decide +kernel
theorem dX5_more_99 : decode cX5_more 99 = .ok (.goto 38, 3) := by decide +kernel
theorem dX5_more_102 : decode cX5_more 102 = .ok (.aload_n 0, 1) := by decide +kernel
theorem dX5_more_103 : decode cX5_more 103 = .ok (.getfield 12, 3) := by decide +kernel
theorem dX5_more_106 : decode cX5_more 106 = .ok (.iload_n 1, 1) := by decide +kernel
theorem dX5_more_107 : decode cX5_more 107 = .ok (.iload 5, 2) := by decide +kernel
theorem dX5_more_109 : decode cX5_more 109 = .ok (.iload 8, 2) := by decide +kernel
theorem dX5_more_111 : decode cX5_more 111 = .ok (.ior, 1) := by decide +kernel
theorem dX5_more_112 : decode cX5_more 112 = .ok (.invokevirtual 212, 3) := by decide +kernel
theorem dX5_more_115 : decode cX5_more 115 = .ok (.iload 9, 2) := by decide +kernel
theorem dX5_more_117 : decode cX5_more 117 = .ok (.iload_n 3, 1) := by decide +kernel
theorem dX5_more_118 : decode cX5_more 118 = .ok (.imul, 1) := by decide +kernel
theorem dX5_more_119 : decode cX5_more 119 = .ok (.isub, 1) := by decide +kernel
theorem dX5_more_120 : decode cX5_more 120 = .ok (.istore 10, 2) := by decide +kernel
theorem dX5_more_122 : decode cX5_more 122 = .ok (.iload 10, 2) := by decide +kernel
theorem dX5_more_124 : decode cX5_more 124 = .ok (.iload 6, 2) := by decide +kernel
theorem dX5_more_126 : decode cX5_more 126 = .ok (.if_icmp .le 11, 3) := by decide +kernel
theorem dX5_more_129 : decode cX5_more 129 = .ok (.iload 10, 2) := by decide +kernel
theorem dX5_more_131 : decode cX5_more 131 = .ok (.istore 6, 2) := by decide +kernel
theorem dX5_more_133 : decode cX5_more 133 = .ok (.iload 8, 2) := by decide +kernel
theorem dX5_more_135 : decode cX5_more 135 = .ok (.istore 7, 2) := by decide +kernel
theorem dX5_more_137 : decode cX5_more 137 = .ok (.iinc 8 1, 3) := by decide +kernel
theorem dX5_more_140 : decode cX5_more 140 = .ok (.goto (-70), 3) := by decide +kernel
theorem dX5_more_143 : decode cX5_more 143 = .ok (.iload 4, 2) := by decide +kernel
theorem dX5_more_145 : decode cX5_more 145 = .ok (.ifCond .ne 8, 3) := by decide +kernel
theorem dX5_more_148 : decode cX5_more 148 = .ok (.iload 6, 2) := by decide +kernel
theorem dX5_more_150 : decode cX5_more 150 = .ok (.goto 5, 3) := by decide +kernel
theorem dX5_more_153 : decode cX5_more 153 = .ok (.iload 7, 2) := by decide +kernel
theorem dX5_more_155 : decode cX5_more 155 = .ok (.ireturn, 1) := by decide +kernel
theorem dX5_envy_0 : decode cX5_envy 0 = .ok (.aload_n 0, 1) := by decide +kernel
theorem dX5_envy_1 : decode cX5_envy 1 = .ok (.getfield 12, 3) := by decide +kernel
theorem dX5_envy_4 : decode cX5_envy 4 = .ok (.iload_n 1, 1) := by decide +kernel
theorem dX5_envy_5 : decode cX5_envy 5 = .ok (.invokevirtual 65, 3) := by decide +kernel
theorem dX5_envy_8 : decode cX5_envy 8 = .ok (.ifCond .eq 10, 3) := by decide +kernel
theorem dX5_envy_11 : decode cX5_envy 11 = .ok (.iload_n 2, 1) := by decide +kernel
theorem dX5_envy_12 : decode cX5_envy 12 = .ok (.invokestatic 101, 3) := by decide +kernel
theorem dX5_envy_15 : decode cX5_envy 15 = .ok (.ifCond .ne 5, 3) := by decide +kernel
theorem dX5_envy_18 : decode cX5_envy 18 = .ok (.iconst (-1), 1) := by decide +kernel
theorem dX5_envy_19 : decode cX5_envy 19 = .ok (.ireturn, 1) := by decide +kernel
theorem dX5_envy_20 : decode cX5_envy 20 = .ok (.aload_n 0, 1) := by decide +kernel
theorem dX5_envy_21 : decode cX5_envy 21 = .ok (.getfield 12, 3) := by decide +kernel
theorem dX5_envy_24 : decode cX5_envy 24 = .ok (.iload_n 1, 1) := by decide +kernel
theorem dX5_envy_25 : decode cX5_envy 25 = .ok (.invokevirtual 95, 3) := by decide +kernel
theorem dX5_envy_28 : decode cX5_envy 28 = .ok (.istore_n 3, 1) := by decide +kernel
theorem dX5_envy_29 : decode cX5_envy 29 = .ok (.bipush (-4), 2) := by decide +kernel
theorem dX5_envy_31 : decode cX5_envy 31 = .ok (.istore 4, 2) := by decide +kernel
theorem dX5_envy_33 : decode cX5_envy 33 = .ok (.iconst 0, 1) := by decide +kernel
theorem dX5_envy_34 : decode cX5_envy 34 = .ok (.istore 5, 2) := by decide +kernel
theorem dX5_envy_36 : decode cX5_envy 36 = .ok (.iload 5, 2) := by decide +kernel
theorem dX5_envy_38 : decode cX5_envy 38 = .ok (.aload_n 0, 1) := by decide +kernel
theorem dX5_envy_39 : decode cX5_envy 39 = .ok (.getfield 12, 3) := by decide +kernel
theorem dX5_envy_42 : decode cX5_envy 42 = .ok (.getfield 54, 3) := by decide +kernel
theorem dX5_envy_45 : decode cX5_envy 45 = .ok (.if_icmp .ge 45, 3) := by decide +kernel
theorem dX5_envy_48 : decode cX5_envy 48 = .ok (.aload_n 0, 1) := by decide +kernel
theorem dX5_envy_49 : decode cX5_envy 49 = .ok (.getfield 12, 3) := by decide +kernel
theorem dX5_envy_52 : decode cX5_envy 52 = .ok (.iload_n 1, 1) := by decide +kernel
theorem dX5_envy_53 : decode cX5_envy 53 = .ok (.aload_n 0, 1) := by decide +kernel
theorem dX5_envy_54 : decode cX5_envy 54 = .ok (.getfield 12, 3) := by decide +kernel
theorem dX5_envy_57 : decode cX5_envy 57 = .ok (.getfield 79, 3) := by decide +kernel
theorem dX5_envy_60 : decode cX5_envy 60 = .ok (.getfield 88, 3) := by decide +kernel
theorem dX5_envy_63 : decode cX5_envy 63 = .ok (.iload 5, 2) := by decide +kernel
theorem dX5_envy_65 : decode cX5_envy 65 = .ok (.iaload, 1) := by decide +kernel
theorem dX5_envy_66 : decode cX5_envy 66 = .ok (.invokevirtual 212, 3) := by decide +kernel
theorem dX5_envy_69 : decode cX5_envy 69 = .ok (.istore 6, 2) := by decide +kernel
theorem dX5_envy_71 : decode cX5_envy 71 = .ok (.iload 6, 2) := by decide +kernel
theorem dX5_envy_73 : decode cX5_envy 73 = .ok (.iload_n 3, 1) := by decide +kernel
theorem dX5_envy_74 : decode cX5_envy 74 = .ok (.if_icmp .le 10, 3) := by decide +kernel
theorem dX5_envy_77 : decode cX5_envy 77 = .ok (.iload 6, 2) := by decide +kernel
theorem dX5_envy_79 : decode cX5_envy 79 = .ok (.istore_n 3, 1) := by decide +kernel
theorem dX5_envy_80 : decode cX5_envy 80 = .ok (.iload 5, 2) := by decide +kernel
theorem dX5_envy_82 : decode cX5_envy 82 = .ok (.istore 4, 2) := by decide +kernel
theorem dX5_envy_84 : decode cX5_envy 84 = .ok (.iinc 5 1, 3) := by decide +kernel
theorem dX5_envy_87 : decode cX5_envy 87 = .ok (.goto (-51), 3) := by decide +kernel
theorem dX5_envy_90 : decode cX5_envy 90 = .ok (.iload 4, 2) := by decide +kernel
theorem dX5_envy_92 : decode cX5_envy 92 = .ok (.bipush (-4), 2) := by decide +kernel
theorem dX5_envy_94 : decode cX5_envy 94 = .ok (.if_icmp .eq 7, 3) := by decide +kernel
theorem dX5_envy_97 : decode cX5_envy 97 = .ok (.iload_n 2, 1) := by decide +kernel
theorem dX5_envy_98 : decode cX5_envy 98 = .ok (.ifCond .ne 8, 3) := by decide +kernel
theorem dX5_envy_101 : decode cX5_envy 101 = .ok (.iload 4, 2) := by decide +kernel
theorem dX5_envy_103 : decode cX5_envy 103 = .ok (.goto 4, 3) := by decide +kernel
theorem dX5_envy_106 : decode cX5_envy 106 = .ok (.iload_n 3, 1) := by decide +kernel
theorem dX5_envy_107 : decode cX5_envy 107 = .ok (.ireturn, 1) := by decide +kernel
theorem dX5_both_0 : decode cX5_both 0 = .ok (.aload_n 0, 1) := by decide +kernel
theorem dX5_both_1 : decode cX5_both 1 = .ok (.getfield 12, 3) := by decide +kernel
theorem dX5_both_4 : decode cX5_both 4 = .ok (.iload_n 1, 1) := by decide +kernel
theorem dX5_both_5 : decode cX5_both 5 = .ok (.invokevirtual 65, 3) := by decide +kernel
theorem dX5_both_8 : decode cX5_both 8 = .ok (.ifCond .eq 14, 3) := by decide +kernel
theorem dX5_both_11 : decode cX5_both 11 = .ok (.aload_n 0, 1) := by decide +kernel
theorem dX5_both_12 : decode cX5_both 12 = .ok (.getfield 12, 3) := by decide +kernel
theorem dX5_both_15 : decode cX5_both 15 = .ok (.iload_n 2, 1) := by decide +kernel
theorem dX5_both_16 : decode cX5_both 16 = .ok (.invokevirtual 65, 3) := by decide +kernel
theorem dX5_both_19 : decode cX5_both 19 = .ok (.ifCond .ne 5, 3) := by decide +kernel
theorem dX5_both_22 : decode cX5_both 22 = .ok (.iconst (-1), 1) := by decide +kernel
theorem dX5_both_23 : decode cX5_both 23 = .ok (.ireturn, 1) := by decide +kernel
theorem dX5_both_24 : decode cX5_both 24 = .ok (.aload_n 0, 1) := by decide +kernel
theorem dX5_both_25 : decode cX5_both 25 = .ok (.getfield 12, 3) := by decide +kernel
theorem dX5_both_28 : decode cX5_both 28 = .ok (.getfield 79, 3) := by decide +kernel
theorem dX5_both_31 : decode cX5_both 31 = .ok (.getfield 88, 3) := by decide +kernel
theorem dX5_both_34 : decode cX5_both 34 = .ok (.iload_n 1, 1) := by decide +kernel
theorem dX5_both_35 : decode cX5_both 35 = .ok (.iaload, 1) := by decide +kernel
theorem dX5_both_36 : decode cX5_both 36 = .ok (.aload_n 0, 1) := by decide +kernel
theorem dX5_both_37 : decode cX5_both 37 = .ok (.getfield 12, 3) := by decide +kernel
theorem dX5_both_40 : decode cX5_both 40 = .ok (.getfield 79, 3) := by decide +kernel
theorem dX5_both_43 : decode cX5_both 43 = .ok (.getfield 88, 3) := by decide +kernel
theorem dX5_both_46 : decode cX5_both 46 = .ok (.iload_n 2, 1) := by decide +kernel
theorem dX5_both_47 : decode cX5_both 47 = .ok (.iaload, 1) := by decide +kernel
theorem dX5_both_48 : decode cX5_both 48 = .ok (.iand, 1) := by decide +kernel
theorem dX5_both_49 : decode cX5_both 49 = .ok (.ireturn, 1) := by decide +kernel
theorem dX5_hands_0 : decode cX5_hands 0 = .ok (.iload_n 1, 1) := by decide +kernel
theorem dX5_hands_1 : decode cX5_hands 1 = .ok (.invokestatic 98, 3) := by decide +kernel
theorem dX5_hands_4 : decode cX5_hands 4 = .ok (.ifCond .ne 5, 3) := by decide +kernel
theorem dX5_hands_7 : decode cX5_hands 7 = .ok (.iconst (-1), 1) := by decide +kernel
theorem dX5_hands_8 : decode cX5_hands 8 = .ok (.ireturn, 1) := by decide +kernel
theorem dX5_hands_9 : decode cX5_hands 9 = .ok (.iconst 0, 1) := by decide +kernel
theorem dX5_hands_10 : decode cX5_hands 10 = .ok (.istore_n 2, 1) := by decide +kernel
theorem dX5_hands_11 : decode cX5_hands 11 = .ok (.iconst 0, 1) := by decide +kernel
theorem dX5_hands_12 : decode cX5_hands 12 = .ok (.istore_n 3, 1) := by decide +kernel
theorem dX5_hands_13 : decode cX5_hands 13 = .ok (.iload_n 3, 1) := by decide +kernel
theorem dX5_hands_14 : decode cX5_hands 14 = .ok (.aload_n 0, 1) := by decide +kernel
theorem dX5_hands_15 : decode cX5_hands 15 = .ok (.getfield 12, 3) := by decide +kernel
theorem dX5_hands_18 : decode cX5_hands 18 = .ok (.getfield 54, 3) := by decide +kernel
theorem dX5_hands_21 : decode cX5_hands 21 = .ok (.if_icmp .ge 34, 3) := by decide +kernel
theorem dX5_hands_24 : decode cX5_hands 24 = .ok (.aload_n 0, 1) := by decide +kernel
theorem dX5_hands_25 : decode cX5_hands 25 = .ok (.getfield 12, 3) := by decide +kernel
theorem dX5_hands_28 : decode cX5_hands 28 = .ok (.getfield 79, 3) := by decide +kernel
theorem dX5_hands_31 : decode cX5_hands 31 = .ok (.getfield 88, 3) := by decide +kernel
theorem dX5_hands_34 : decode cX5_hands 34 = .ok (.iload_n 3, 1) := by decide +kernel
theorem dX5_hands_35 : decode cX5_hands 35 = .ok (.iaload, 1) := by decide +kernel
theorem dX5_hands_36 : decode cX5_hands 36 = .ok (.iload_n 1, 1) := by decide +kernel
theorem dX5_hands_37 : decode cX5_hands 37 = .ok (.invokestatic 119, 3) := by decide +kernel
theorem dX5_hands_40 : decode cX5_hands 40 = .ok (.ifCond .ne 9, 3) := by decide +kernel
theorem dX5_hands_43 : decode cX5_hands 43 = .ok (.iload_n 2, 1) := by decide +kernel
theorem dX5_hands_44 : decode cX5_hands 44 = .ok (.iconst 1, 1) := by decide +kernel
theorem dX5_hands_45 : decode cX5_hands 45 = .ok (.iload_n 3, 1) := by decide +kernel
theorem dX5_hands_46 : decode cX5_hands 46 = .ok (.ishl, 1) := by decide +kernel
theorem dX5_hands_47 : decode cX5_hands 47 = .ok (.ior, 1) := by decide +kernel
theorem dX5_hands_48 : decode cX5_hands 48 = .ok (.istore_n 2, 1) := by decide +kernel
theorem dX5_hands_49 : decode cX5_hands 49 = .ok (.iinc 3 1, 3) := by decide +kernel
theorem dX5_hands_52 : decode cX5_hands 52 = .ok (.goto (-39), 3) := by decide +kernel
theorem dX5_hands_55 : decode cX5_hands 55 = .ok (.iload_n 2, 1) := by decide +kernel
theorem dX5_hands_56 : decode cX5_hands 56 = .ok (.ireturn, 1) := by decide +kernel
theorem dX5_rain_0 : decode cX5_rain 0 = .ok (.aload_n 0, 1) := by decide +kernel
theorem dX5_rain_1 : decode cX5_rain 1 = .ok (.getfield 12, 3) := by decide +kernel
theorem dX5_rain_4 : decode cX5_rain 4 = .ok (.iload_n 1, 1) := by decide +kernel
theorem dX5_rain_5 : decode cX5_rain 5 = .ok (.invokevirtual 65, 3) := by decide +kernel
theorem dX5_rain_8 : decode cX5_rain 8 = .ok (.ifCond .eq 32, 3) := by decide +kernel
theorem dX5_rain_11 : decode cX5_rain 11 = .ok (.iload_n 2, 1) := by decide +kernel
theorem dX5_rain_12 : decode cX5_rain 12 = .ok (.iconst 0, 1) := by decide +kernel
theorem dX5_rain_13 : decode cX5_rain 13 = .ok (.sipush 300, 3) := by decide +kernel
theorem dX5_rain_16 : decode cX5_rain 16 = .ok (.invokestatic 50, 3) := by decide +kernel
theorem dX5_rain_19 : decode cX5_rain 19 = .ok (.ifCond .eq 21, 3) := by decide +kernel
theorem dX5_rain_22 : decode cX5_rain 22 = .ok (.iload_n 3, 1) := by decide +kernel
theorem dX5_rain_23 : decode cX5_rain 23 = .ok (.iconst 0, 1) := by decide +kernel
theorem dX5_rain_24 : decode cX5_rain 24 = .ok (.bipush 10, 2) := by decide +kernel
theorem dX5_rain_26 : decode cX5_rain 26 = .ok (.invokestatic 50, 3) := by decide +kernel
theorem dX5_rain_29 : decode cX5_rain 29 = .ok (.ifCond .eq 11, 3) := by decide +kernel
theorem dX5_rain_32 : decode cX5_rain 32 = .ok (.iload 4, 2) := by decide +kernel
theorem dX5_rain_34 : decode cX5_rain 34 = .ok (.invokestatic 101, 3) := by decide +kernel
theorem dX5_rain_37 : decode cX5_rain 37 = .ok (.ifCond .ne 5, 3) := by decide +kernel
theorem dX5_rain_40 : decode cX5_rain 40 = .ok (.iconst (-1), 1) := by decide +kernel
theorem dX5_rain_41 : decode cX5_rain 41 = .ok (.ireturn, 1) := by decide +kernel
theorem dX5_rain_42 : decode cX5_rain 42 = .ok (.aload_n 0, 1) := by decide +kernel
theorem dX5_rain_43 : decode cX5_rain 43 = .ok (.getfield 12, 3) := by decide +kernel
theorem dX5_rain_46 : decode cX5_rain 46 = .ok (.iload_n 1, 1) := by decide +kernel
theorem dX5_rain_47 : decode cX5_rain 47 = .ok (.iload_n 2, 1) := by decide +kernel
theorem dX5_rain_48 : decode cX5_rain 48 = .ok (.iload_n 3, 1) := by decide +kernel
theorem dX5_rain_49 : decode cX5_rain 49 = .ok (.invokevirtual 215, 3) := by decide +kernel
theorem dX5_rain_52 : decode cX5_rain 52 = .ok (.istore 5, 2) := by decide +kernel
theorem dX5_rain_54 : decode cX5_rain 54 = .ok (.bipush 10, 2) := by decide +kernel
theorem dX5_rain_56 : decode cX5_rain 56 = .ok (.bipush 63, 2) := by decide +kernel
theorem dX5_rain_58 : decode cX5_rain 58 = .ok (.aload_n 0, 1) := by decide +kernel
theorem dX5_rain_59 : decode cX5_rain 59 = .ok (.getfield 12, 3) := by decide +kernel
theorem dX5_rain_62 : decode cX5_rain 62 = .ok (.getfield 79, 3) := by decide +kernel
theorem dX5_rain_65 : decode cX5_rain 65 = .ok (.getfield 113, 3) := by decide +kernel
theorem dX5_rain_68 : decode cX5_rain 68 = .ok (.iconst (-1), 1) := by decide +kernel
theorem dX5_rain_69 : decode cX5_rain 69 = .ok (.ixor, 1) := by decide +kernel
theorem dX5_rain_70 : decode cX5_rain 70 = .ok (.iand, 1) := by decide +kernel
theorem dX5_rain_71 : decode cX5_rain 71 = .ok (.invokestatic 207, 3) := by decide +kernel
theorem dX5_rain_74 : decode cX5_rain 74 = .ok (.invokestatic 218, 3) := by decide +kernel
theorem dX5_rain_77 : decode cX5_rain 77 = .ok (.istore 6, 2) := by decide +kernel
theorem dX5_rain_79 : decode cX5_rain 79 = .ok (.iconst 1, 1) := by decide +kernel
theorem dX5_rain_80 : decode cX5_rain 80 = .ok (.iload 6, 2) := by decide +kernel
theorem dX5_rain_82 : decode cX5_rain 82 = .ok (.iload 5, 2) := by decide +kernel
theorem dX5_rain_84 : decode cX5_rain 84 = .ok (.invokestatic 221, 3) := by decide +kernel
theorem dX5_rain_87 : decode cX5_rain 87 = .ok (.invokestatic 224, 3) := by decide +kernel
theorem dX5_rain_90 : decode cX5_rain 90 = .ok (.istore 7, 2) := by decide +kernel
theorem dX5_rain_92 : decode cX5_rain 92 = .ok (.iload 4, 2) := by decide +kernel
theorem dX5_rain_94 : decode cX5_rain 94 = .ok (.ifCond .ne 8, 3) := by decide +kernel
theorem dX5_rain_97 : decode cX5_rain 97 = .ok (.iload 5, 2) := by decide +kernel
theorem dX5_rain_99 : decode cX5_rain 99 = .ok (.goto 5, 3) := by decide +kernel
theorem dX5_rain_102 : decode cX5_rain 102 = .ok (.iload 6, 2) := by decide +kernel
theorem dX5_rain_104 : decode cX5_rain 104 = .ok (.iload 7, 2) := by decide +kernel
theorem dX5_rain_106 : decode cX5_rain 106 = .ok (.idiv, 1) := by decide +kernel
theorem dX5_rain_107 : decode cX5_rain 107 = .ok (.ireturn, 1) := by decide +kernel
theorem dX5_image_0 : decode cX5_image 0 = .ok (.aload_n 0, 1) := by decide +kernel
theorem dX5_image_1 : decode cX5_image 1 = .ok (.getfield 23, 3) := by decide +kernel
theorem dX5_image_4 : decode cX5_image 4 = .ok (.aload_n 0, 1) := by decide +kernel
theorem dX5_image_5 : decode cX5_image 5 = .ok (.getfield 12, 3) := by decide +kernel
theorem dX5_image_8 : decode cX5_image 8 = .ok (.invokevirtual 130, 3) := by decide +kernel
theorem dX5_image_11 : decode cX5_image 11 = .ok (.aload_n 0, 1) := by decide +kernel
theorem dX5_image_12 : decode cX5_image 12 = .ok (.getfield 26, 3) := by decide +kernel
theorem dX5_image_15 : decode cX5_image 15 = .ok (.aload_n 0, 1) := by decide +kernel
theorem dX5_image_16 : decode cX5_image 16 = .ok (.getfield 19, 3) := by decide +kernel
theorem dX5_image_19 : decode cX5_image 19 = .ok (.invokevirtual 229, 3) := by decide +kernel
theorem dX5_image_22 : decode cX5_image 22 = .ok (.aload_n 0, 1) := by decide +kernel
theorem dX5_image_23 : decode cX5_image 23 = .ok (.iconst 1, 1) := by decide +kernel
theorem dX5_image_24 : decode cX5_image 24 = .ok (.putfield 29, 3) := by decide +kernel
theorem dX5_image_27 : decode cX5_image 27 = .ok (.iconst 1, 1) := by decide +kernel
theorem dX5_image_28 : decode cX5_image 28 = .ok (.ireturn, 1) := by decide +kernel
theorem dX5_restore_0 : decode cX5_restore 0 = .ok (.aload_n 0, 1) := by decide +kernel
theorem dX5_restore_1 : decode cX5_restore 1 = .ok (.getfield 29, 3) := by decide +kernel
theorem dX5_restore_4 : decode cX5_restore 4 = .ok (.ifCond .ne 6, 3) := by decide +kernel
theorem dX5_restore_7 : decode cX5_restore 7 = .ok (.bipush (-4), 2) := by decide +kernel
theorem dX5_restore_9 : decode cX5_restore 9 = .ok (.ireturn, 1) := by decide +kernel
theorem dX5_restore_10 : decode cX5_restore 10 = .ok (.aload_n 0, 1) := by decide +kernel
theorem dX5_restore_11 : decode cX5_restore 11 = .ok (.getfield 12, 3) := by decide +kernel
theorem dX5_restore_14 : decode cX5_restore 14 = .ok (.aload_n 0, 1) := by decide +kernel
theorem dX5_restore_15 : decode cX5_restore 15 = .ok (.getfield 23, 3) := by decide +kernel
theorem dX5_restore_18 : decode cX5_restore 18 = .ok (.invokevirtual 130, 3) := by decide +kernel
theorem dX5_restore_21 : decode cX5_restore 21 = .ok (.aload_n 0, 1) := by decide +kernel
theorem dX5_restore_22 : decode cX5_restore 22 = .ok (.getfield 19, 3) := by decide +kernel
theorem dX5_restore_25 : decode cX5_restore 25 = .ok (.aload_n 0, 1) := by decide +kernel
theorem dX5_restore_26 : decode cX5_restore 26 = .ok (.getfield 26, 3) := by decide +kernel
theorem dX5_restore_29 : decode cX5_restore 29 = .ok (.invokevirtual 229, 3) := by decide +kernel
theorem dX5_restore_32 : decode cX5_restore 32 = .ok (.iconst 1, 1) := by decide +kernel
theorem dX5_restore_33 : decode cX5_restore 33 = .ok (.ireturn, 1) := by decide +kernel
theorem dX5_told_0 : decode cX5_told 0 = .ok (.aload_n 0, 1) := by decide +kernel
theorem dX5_told_1 : decode cX5_told 1 = .ok (.getfield 12, 3) := by decide +kernel
theorem dX5_told_4 : decode cX5_told 4 = .ok (.iload_n 1, 1) := by decide +kernel
theorem dX5_told_5 : decode cX5_told 5 = .ok (.invokevirtual 65, 3) := by decide +kernel
theorem dX5_told_8 : decode cX5_told 8 = .ok (.ifCond .eq 36, 3) := by decide +kernel
theorem dX5_told_11 : decode cX5_told 11 = .ok (.iload_n 2, 1) := by decide +kernel
theorem dX5_told_12 : decode cX5_told 12 = .ok (.invokestatic 233, 3) := by decide +kernel
theorem dX5_told_15 : decode cX5_told 15 = .ok (.ifCond .eq 29, 3) := by decide +kernel
theorem dX5_told_18 : decode cX5_told 18 = .ok (.iload_n 3, 1) := by decide +kernel
theorem dX5_told_19 : decode cX5_told 19 = .ok (.invokestatic 236, 3) := by decide +kernel
theorem dX5_told_22 : decode cX5_told 22 = .ok (.ifCond .eq 22, 3) := by decide +kernel
theorem dX5_told_25 : decode cX5_told 25 = .ok (.iload 5, 2) := by decide +kernel
theorem dX5_told_27 : decode cX5_told 27 = .ok (.iconst 1, 1) := by decide +kernel
theorem dX5_told_28 : decode cX5_told 28 = .ok (.bipush 12, 2) := by decide +kernel
theorem dX5_told_30 : decode cX5_told 30 = .ok (.invokestatic 50, 3) := by decide +kernel
theorem dX5_told_33 : decode cX5_told 33 = .ok (.ifCond .eq 11, 3) := by decide +kernel
theorem dX5_told_36 : decode cX5_told 36 = .ok (.iload 6, 2) := by decide +kernel
theorem dX5_told_38 : decode cX5_told 38 = .ok (.invokestatic 101, 3) := by decide +kernel
theorem dX5_told_41 : decode cX5_told 41 = .ok (.ifCond .ne 5, 3) := by decide +kernel
theorem dX5_told_44 : decode cX5_told 44 = .ok (.iconst (-1), 1) := by decide +kernel
theorem dX5_told_45 : decode cX5_told 45 = .ok (.ireturn, 1) := by decide +kernel
theorem dX5_told_46 : decode cX5_told 46 = .ok (.aload_n 0, 1) := by decide +kernel
theorem dX5_told_47 : decode cX5_told 47 = .ok (.getfield 45, 3) := by decide +kernel
theorem dX5_told_50 : decode cX5_told 50 = .ok (.iload_n 2, 1) := by decide +kernel
theorem dX5_told_51 : decode cX5_told 51 = .ok (.aaload, 1) := by decide +kernel
theorem dX5_told_52 : decode cX5_told 52 = .ok (.astore 7, 2) := by decide +kernel
theorem dX5_told_54 : decode cX5_told 54 = .ok (.aload 7, 2) := by decide +kernel
theorem dX5_told_56 : decode cX5_told 56 = .ok (.iload_n 3, 1) := by decide +kernel
theorem dX5_told_57 : decode cX5_told 57 = .ok (.iload 4, 2) := by decide +kernel
theorem dX5_told_59 : decode cX5_told 59 = .ok (.iload 5, 2) := by decide +kernel
theorem dX5_told_61 : decode cX5_told 61 = .ok (.invokevirtual 239, 3) := by decide +kernel
theorem dX5_told_64 : decode cX5_told 64 = .ok (.istore 8, 2) := by decide +kernel
theorem dX5_told_66 : decode cX5_told 66 = .ok (.iload 8, 2) := by decide +kernel
theorem dX5_told_68 : decode cX5_told 68 = .ok (.ifCond .eq 6, 3) := by decide +kernel
theorem dX5_told_71 : decode cX5_told 71 = .ok (.iload 8, 2) := by decide +kernel
theorem dX5_told_73 : decode cX5_told 73 = .ok (.ireturn, 1) := by decide +kernel
theorem dX5_told_74 : decode cX5_told 74 = .ok (.iload 6, 2) := by decide +kernel
theorem dX5_told_76 : decode cX5_told 76 = .ok (.ifCond .ne 17, 3) := by decide +kernel
theorem dX5_told_79 : decode cX5_told 79 = .ok (.aload_n 0, 1) := by decide +kernel
theorem dX5_told_80 : decode cX5_told 80 = .ok (.iload_n 1, 1) := by decide +kernel
theorem dX5_told_81 : decode cX5_told 81 = .ok (.aload 7, 2) := by decide +kernel
theorem dX5_told_83 : decode cX5_told 83 = .ok (.iload 4, 2) := by decide +kernel
theorem dX5_told_85 : decode cX5_told 85 = .ok (.iload 5, 2) := by decide +kernel
theorem dX5_told_87 : decode cX5_told 87 = .ok (.invokevirtual 242, 3) := by decide +kernel
theorem dX5_told_90 : decode cX5_told 90 = .ok (.goto 14, 3) := by decide +kernel
theorem dX5_told_93 : decode cX5_told 93 = .ok (.aload_n 0, 1) := by decide +kernel
theorem dX5_told_94 : decode cX5_told 94 = .ok (.iload_n 1, 1) := by decide +kernel
theorem dX5_told_95 : decode cX5_told 95 = .ok (.aload 7, 2) := by decide +kernel
theorem dX5_told_97 : decode cX5_told 97 = .ok (.iload 4, 2) := by decide +kernel
theorem dX5_told_99 : decode cX5_told 99 = .ok (.iload 5, 2) := by decide +kernel
theorem dX5_told_101 : decode cX5_told 101 = .ok (.invokevirtual 246, 3) := by decide +kernel
theorem dX5_told_104 : decode cX5_told 104 = .ok (.ireturn, 1) := by decide +kernel
theorem dX5_film_0 : decode cX5_film 0 = .ok (.aload_n 0, 1) := by decide +kernel
theorem dX5_film_1 : decode cX5_film 1 = .ok (.getfield 12, 3) := by decide +kernel
theorem dX5_film_4 : decode cX5_film 4 = .ok (.iload_n 1, 1) := by decide +kernel
theorem dX5_film_5 : decode cX5_film 5 = .ok (.invokevirtual 65, 3) := by decide +kernel
theorem dX5_film_8 : decode cX5_film 8 = .ok (.ifCond .eq 28, 3) := by decide +kernel
theorem dX5_film_11 : decode cX5_film 11 = .ok (.iload_n 2, 1) := by decide +kernel
theorem dX5_film_12 : decode cX5_film 12 = .ok (.iconst 1, 1) := by decide +kernel
theorem dX5_film_13 : decode cX5_film 13 = .ok (.bipush 12, 2) := by decide +kernel
theorem dX5_film_15 : decode cX5_film 15 = .ok (.invokestatic 50, 3) := by decide +kernel
theorem dX5_film_18 : decode cX5_film 18 = .ok (.ifCond .eq 18, 3) := by decide +kernel
theorem dX5_film_21 : decode cX5_film 21 = .ok (.iload_n 3, 1) := by decide +kernel
theorem dX5_film_22 : decode cX5_film 22 = .ok (.invokestatic 233, 3) := by decide +kernel
theorem dX5_film_25 : decode cX5_film 25 = .ok (.ifCond .eq 11, 3) := by decide +kernel
theorem dX5_film_28 : decode cX5_film 28 = .ok (.iload 4, 2) := by decide +kernel
theorem dX5_film_30 : decode cX5_film 30 = .ok (.invokestatic 236, 3) := by decide +kernel
theorem dX5_film_33 : decode cX5_film 33 = .ok (.ifCond .ne 5, 3) := by decide +kernel
theorem dX5_film_36 : decode cX5_film 36 = .ok (.iconst (-1), 1) := by decide +kernel
theorem dX5_film_37 : decode cX5_film 37 = .ok (.ireturn, 1) := by decide +kernel
theorem dX5_film_38 : decode cX5_film 38 = .ok (.aload_n 0, 1) := by decide +kernel
theorem dX5_film_39 : decode cX5_film 39 = .ok (.getfield 45, 3) := by decide +kernel
theorem dX5_film_42 : decode cX5_film 42 = .ok (.iload_n 3, 1) := by decide +kernel
theorem dX5_film_43 : decode cX5_film 43 = .ok (.aaload, 1) := by decide +kernel
theorem dX5_film_44 : decode cX5_film 44 = .ok (.iload 4, 2) := by decide +kernel
theorem dX5_film_46 : decode cX5_film 46 = .ok (.iload 5, 2) := by decide +kernel
theorem dX5_film_48 : decode cX5_film 48 = .ok (.iload_n 2, 1) := by decide +kernel
theorem dX5_film_49 : decode cX5_film 49 = .ok (.invokevirtual 239, 3) := by decide +kernel
theorem dX5_film_52 : decode cX5_film 52 = .ok (.istore 6, 2) := by decide +kernel
theorem dX5_film_54 : decode cX5_film 54 = .ok (.iload 6, 2) := by decide +kernel
theorem dX5_film_56 : decode cX5_film 56 = .ok (.ifCond .eq 6, 3) := by decide +kernel
theorem dX5_film_59 : decode cX5_film 59 = .ok (.iload 6, 2) := by decide +kernel
theorem dX5_film_61 : decode cX5_film 61 = .ok (.ireturn, 1) := by decide +kernel
theorem dX5_film_62 : decode cX5_film 62 = .ok (.iconst 0, 1) := by decide +kernel
theorem dX5_film_63 : decode cX5_film 63 = .ok (.istore 7, 2) := by decide +kernel
theorem dX5_film_65 : decode cX5_film 65 = .ok (.iload 7, 2) := by decide +kernel
theorem dX5_film_67 : decode cX5_film 67 = .ok (.iload_n 2, 1) := by decide +kernel
theorem dX5_film_68 : decode cX5_film 68 = .ok (.if_icmp .ge 34, 3) := by decide +kernel
theorem dX5_film_71 : decode cX5_film 71 = .ok (.aload_n 0, 1) := by decide +kernel
theorem dX5_film_72 : decode cX5_film 72 = .ok (.getfield 45, 3) := by decide +kernel
theorem dX5_film_75 : decode cX5_film 75 = .ok (.iload_n 3, 1) := by decide +kernel
theorem dX5_film_76 : decode cX5_film 76 = .ok (.aaload, 1) := by decide +kernel
theorem dX5_film_77 : decode cX5_film 77 = .ok (.iload 5, 2) := by decide +kernel
theorem dX5_film_79 : decode cX5_film 79 = .ok (.iload 7, 2) := by decide +kernel
theorem dX5_film_81 : decode cX5_film 81 = .ok (.iadd, 1) := by decide +kernel
theorem dX5_film_82 : decode cX5_film 82 = .ok (.aload_n 0, 1) := by decide +kernel
theorem dX5_film_83 : decode cX5_film 83 = .ok (.getfield 12, 3) := by decide +kernel
theorem dX5_film_86 : decode cX5_film 86 = .ok (.iload_n 1, 1) := by decide +kernel
theorem dX5_film_87 : decode cX5_film 87 = .ok (.iload 7, 2) := by decide +kernel
theorem dX5_film_89 : decode cX5_film 89 = .ok (.invokevirtual 107, 3) := by decide +kernel
theorem dX5_film_92 : decode cX5_film 92 = .ok (.i2l, 1) := by decide +kernel
theorem dX5_film_93 : decode cX5_film 93 = .ok (.invokevirtual 249, 3) := by decide +kernel
theorem dX5_film_96 : decode cX5_film 96 = .ok (.iinc 7 1, 3) := by decide +kernel
theorem dX5_film_99 : decode cX5_film 99 = .ok (.goto (-34), 3) := by decide +kernel
theorem dX5_film_102 : decode cX5_film 102 = .ok (.iload_n 2, 1) := by decide +kernel
theorem dX5_film_103 : decode cX5_film 103 = .ok (.ireturn, 1) := by decide +kernel
theorem dX5_sheet_0 : decode cX5_sheet 0 = .ok (.iload_n 1, 1) := by decide +kernel
theorem dX5_sheet_1 : decode cX5_sheet 1 = .ok (.invokestatic 233, 3) := by decide +kernel
theorem dX5_sheet_4 : decode cX5_sheet 4 = .ok (.ifCond .eq 16, 3) := by decide +kernel
theorem dX5_sheet_7 : decode cX5_sheet 7 = .ok (.iload_n 2, 1) := by decide +kernel
theorem dX5_sheet_8 : decode cX5_sheet 8 = .ok (.invokestatic 236, 3) := by decide +kernel
theorem dX5_sheet_11 : decode cX5_sheet 11 = .ok (.ifCond .eq 9, 3) := by decide +kernel
theorem dX5_sheet_14 : decode cX5_sheet 14 = .ok (.iload_n 3, 1) := by decide +kernel
theorem dX5_sheet_15 : decode cX5_sheet 15 = .ok (.bipush 24, 2) := by decide +kernel
theorem dX5_sheet_17 : decode cX5_sheet 17 = .ok (.if_icmp .le 5, 3) := by decide +kernel
theorem dX5_sheet_20 : decode cX5_sheet 20 = .ok (.iconst (-1), 1) := by decide +kernel
theorem dX5_sheet_21 : decode cX5_sheet 21 = .ok (.ireturn, 1) := by decide +kernel
theorem dX5_sheet_22 : decode cX5_sheet 22 = .ok (.iload_n 3, 1) := by decide +kernel
theorem dX5_sheet_23 : decode cX5_sheet 23 = .ok (.ifCond .ge 6, 3) := by decide +kernel
theorem dX5_sheet_26 : decode cX5_sheet 26 = .ok (.bipush (-14), 2) := by decide +kernel
theorem dX5_sheet_28 : decode cX5_sheet 28 = .ok (.ireturn, 1) := by decide +kernel
theorem dX5_sheet_29 : decode cX5_sheet 29 = .ok (.aload_n 0, 1) := by decide +kernel
theorem dX5_sheet_30 : decode cX5_sheet 30 = .ok (.getfield 45, 3) := by decide +kernel
theorem dX5_sheet_33 : decode cX5_sheet 33 = .ok (.iload_n 1, 1) := by decide +kernel
theorem dX5_sheet_34 : decode cX5_sheet 34 = .ok (.aaload, 1) := by decide +kernel
theorem dX5_sheet_35 : decode cX5_sheet 35 = .ok (.iload_n 2, 1) := by decide +kernel
theorem dX5_sheet_36 : decode cX5_sheet 36 = .ok (.iload_n 3, 1) := by decide +kernel
theorem dX5_sheet_37 : decode cX5_sheet 37 = .ok (.invokevirtual 252, 3) := by decide +kernel
theorem dX5_sheet_40 : decode cX5_sheet 40 = .ok (.iload_n 3, 1) := by decide +kernel
theorem dX5_sheet_41 : decode cX5_sheet 41 = .ok (.ireturn, 1) := by decide +kernel
theorem dX5_drop_0 : decode cX5_drop 0 = .ok (.iload_n 1, 1) := by decide +kernel
theorem dX5_drop_1 : decode cX5_drop 1 = .ok (.invokestatic 233, 3) := by decide +kernel
theorem dX5_drop_4 : decode cX5_drop 4 = .ok (.ifCond .ne 5, 3) := by decide +kernel
theorem dX5_drop_7 : decode cX5_drop 7 = .ok (.iconst (-1), 1) := by decide +kernel
theorem dX5_drop_8 : decode cX5_drop 8 = .ok (.ireturn, 1) := by decide +kernel
theorem dX5_drop_9 : decode cX5_drop 9 = .ok (.aload_n 0, 1) := by decide +kernel
theorem dX5_drop_10 : decode cX5_drop 10 = .ok (.getfield 45, 3) := by decide +kernel
theorem dX5_drop_13 : decode cX5_drop 13 = .ok (.iload_n 1, 1) := by decide +kernel
theorem dX5_drop_14 : decode cX5_drop 14 = .ok (.aaload, 1) := by decide +kernel
theorem dX5_drop_15 : decode cX5_drop 15 = .ok (.getfield 256, 3) := by decide +kernel
theorem dX5_drop_18 : decode cX5_drop 18 = .ok (.iconst (-1), 1) := by decide +kernel
theorem dX5_drop_19 : decode cX5_drop 19 = .ok (.if_icmp .ne 6, 3) := by decide +kernel
theorem dX5_drop_22 : decode cX5_drop 22 = .ok (.bipush (-11), 2) := by decide +kernel
theorem dX5_drop_24 : decode cX5_drop 24 = .ok (.ireturn, 1) := by decide +kernel
theorem dX5_drop_25 : decode cX5_drop 25 = .ok (.aload_n 0, 1) := by decide +kernel
theorem dX5_drop_26 : decode cX5_drop 26 = .ok (.getfield 45, 3) := by decide +kernel
theorem dX5_drop_29 : decode cX5_drop 29 = .ok (.iload_n 1, 1) := by decide +kernel
theorem dX5_drop_30 : decode cX5_drop 30 = .ok (.aaload, 1) := by decide +kernel
theorem dX5_drop_31 : decode cX5_drop 31 = .ok (.getfield 259, 3) := by decide +kernel
theorem dX5_drop_34 : decode cX5_drop 34 = .ok (.istore_n 2, 1) := by decide +kernel
theorem dX5_drop_35 : decode cX5_drop 35 = .ok (.aload_n 0, 1) := by decide +kernel
theorem dX5_drop_36 : decode cX5_drop 36 = .ok (.getfield 45, 3) := by decide +kernel
theorem dX5_drop_39 : decode cX5_drop 39 = .ok (.iload_n 1, 1) := by decide +kernel
theorem dX5_drop_40 : decode cX5_drop 40 = .ok (.aaload, 1) := by decide +kernel
theorem dX5_drop_41 : decode cX5_drop 41 = .ok (.iconst (-1), 1) := by decide +kernel
theorem dX5_drop_42 : decode cX5_drop 42 = .ok (.iconst 0, 1) := by decide +kernel
theorem dX5_drop_43 : decode cX5_drop 43 = .ok (.invokevirtual 252, 3) := by decide +kernel
theorem dX5_drop_46 : decode cX5_drop 46 = .ok (.iload_n 2, 1) := by decide +kernel
theorem dX5_drop_47 : decode cX5_drop 47 = .ok (.ireturn, 1) := by decide +kernel
theorem dX5_item_0 : decode cX5_item 0 = .ok (.iload_n 1, 1) := by decide +kernel
theorem dX5_item_1 : decode cX5_item 1 = .ok (.invokestatic 233, 3) := by decide +kernel
theorem dX5_item_4 : decode cX5_item 4 = .ok (.ifCond .eq 10, 3) := by decide +kernel
theorem dX5_item_7 : decode cX5_item 7 = .ok (.iload_n 2, 1) := by decide +kernel
theorem dX5_item_8 : decode cX5_item 8 = .ok (.invokestatic 236, 3) := by decide +kernel
theorem dX5_item_11 : decode cX5_item 11 = .ok (.ifCond .ne 5, 3) := by decide +kernel
theorem dX5_item_14 : decode cX5_item 14 = .ok (.iconst (-1), 1) := by decide +kernel
theorem dX5_item_15 : decode cX5_item 15 = .ok (.ireturn, 1) := by decide +kernel
theorem dX5_item_16 : decode cX5_item 16 = .ok (.aload_n 0, 1) := by decide +kernel
theorem dX5_item_17 : decode cX5_item 17 = .ok (.getfield 45, 3) := by decide +kernel
theorem dX5_item_20 : decode cX5_item 20 = .ok (.iload_n 1, 1) := by decide +kernel
theorem dX5_item_21 : decode cX5_item 21 = .ok (.aaload, 1) := by decide +kernel
theorem dX5_item_22 : decode cX5_item 22 = .ok (.iload_n 2, 1) := by decide +kernel
theorem dX5_item_23 : decode cX5_item 23 = .ok (.iload_n 3, 1) := by decide +kernel
theorem dX5_item_24 : decode cX5_item 24 = .ok (.iconst 1, 1) := by decide +kernel
theorem dX5_item_25 : decode cX5_item 25 = .ok (.invokevirtual 239, 3) := by decide +kernel
theorem dX5_item_28 : decode cX5_item 28 = .ok (.istore 6, 2) := by decide +kernel
theorem dX5_item_30 : decode cX5_item 30 = .ok (.iload 6, 2) := by decide +kernel
theorem dX5_item_32 : decode cX5_item 32 = .ok (.ifCond .eq 6, 3) := by decide +kernel
theorem dX5_item_35 : decode cX5_item 35 = .ok (.iload 6, 2) := by decide +kernel
theorem dX5_item_37 : decode cX5_item 37 = .ok (.ireturn, 1) := by decide +kernel
theorem dX5_item_38 : decode cX5_item 38 = .ok (.aload_n 0, 1) := by decide +kernel
theorem dX5_item_39 : decode cX5_item 39 = .ok (.getfield 45, 3) := by decide +kernel
theorem dX5_item_42 : decode cX5_item 42 = .ok (.iload_n 1, 1) := by decide +kernel
theorem dX5_item_43 : decode cX5_item 43 = .ok (.aaload, 1) := by decide +kernel
theorem dX5_item_44 : decode cX5_item 44 = .ok (.iload_n 3, 1) := by decide +kernel
theorem dX5_item_45 : decode cX5_item 45 = .ok (.lload 4, 2) := by decide +kernel
theorem dX5_item_47 : decode cX5_item 47 = .ok (.invokevirtual 249, 3) := by decide +kernel
theorem dX5_item_50 : decode cX5_item 50 = .ok (.iconst 1, 1) := by decide +kernel
theorem dX5_item_51 : decode cX5_item 51 = .ok (.ireturn, 1) := by decide +kernel
theorem dX5_copy_0 : decode cX5_copy 0 = .ok (.iload_n 1, 1) := by decide +kernel
theorem dX5_copy_1 : decode cX5_copy 1 = .ok (.invokestatic 233, 3) := by decide +kernel
theorem dX5_copy_4 : decode cX5_copy 4 = .ok (.ifCond .eq 10, 3) := by decide +kernel
theorem dX5_copy_7 : decode cX5_copy 7 = .ok (.iload_n 3, 1) := by decide +kernel
theorem dX5_copy_8 : decode cX5_copy 8 = .ok (.invokestatic 233, 3) := by decide +kernel
theorem dX5_copy_11 : decode cX5_copy 11 = .ok (.ifCond .ne 5, 3) := by decide +kernel
theorem dX5_copy_14 : decode cX5_copy 14 = .ok (.iconst (-1), 1) := by decide +kernel
theorem dX5_copy_15 : decode cX5_copy 15 = .ok (.ireturn, 1) := by decide +kernel
theorem dX5_copy_16 : decode cX5_copy 16 = .ok (.aload_n 0, 1) := by decide +kernel
theorem dX5_copy_17 : decode cX5_copy 17 = .ok (.getfield 45, 3) := by decide +kernel
theorem dX5_copy_20 : decode cX5_copy 20 = .ok (.iload_n 1, 1) := by decide +kernel
theorem dX5_copy_21 : decode cX5_copy 21 = .ok (.aaload, 1) := by decide +kernel
theorem dX5_copy_22 : decode cX5_copy 22 = .ok (.astore 6, 2) := by decide +kernel
theorem dX5_copy_24 : decode cX5_copy 24 = .ok (.aload_n 0, 1) := by decide +kernel
theorem dX5_copy_25 : decode cX5_copy 25 = .ok (.getfield 45, 3) := by decide +kernel
theorem dX5_copy_28 : decode cX5_copy 28 = .ok (.iload_n 3, 1) := by decide +kernel
theorem dX5_copy_29 : decode cX5_copy 29 = .ok (.aaload, 1) := by decide +kernel
theorem dX5_copy_30 : decode cX5_copy 30 = .ok (.astore 7, 2) := by decide +kernel
theorem dX5_copy_32 : decode cX5_copy 32 = .ok (.aload 6, 2) := by decide +kernel
theorem dX5_copy_34 : decode cX5_copy 34 = .ok (.getfield 256, 3) := by decide +kernel
theorem dX5_copy_37 : decode cX5_copy 37 = .ok (.iconst (-1), 1) := by decide +kernel
theorem dX5_copy_38 : decode cX5_copy 38 = .ok (.if_icmp .eq 12, 3) := by decide +kernel
theorem dX5_copy_41 : decode cX5_copy 41 = .ok (.aload 7, 2) := by decide +kernel
theorem dX5_copy_43 : decode cX5_copy 43 = .ok (.getfield 256, 3) := by decide +kernel
theorem dX5_copy_46 : decode cX5_copy 46 = .ok (.iconst (-1), 1) := by decide +kernel
theorem dX5_copy_47 : decode cX5_copy 47 = .ok (.if_icmp .ne 6, 3) := by decide +kernel
theorem dX5_copy_50 : decode cX5_copy 50 = .ok (.bipush (-11), 2) := by decide +kernel
theorem dX5_copy_52 : decode cX5_copy 52 = .ok (.ireturn, 1) := by decide +kernel
theorem dX5_copy_53 : decode cX5_copy 53 = .ok (.aload 6, 2) := by decide +kernel
theorem dX5_copy_55 : decode cX5_copy 55 = .ok (.getfield 256, 3) := by decide +kernel
theorem dX5_copy_58 : decode cX5_copy 58 = .ok (.aload 7, 2) := by decide +kernel
theorem dX5_copy_60 : decode cX5_copy 60 = .ok (.getfield 256, 3) := by decide +kernel
theorem dX5_copy_63 : decode cX5_copy 63 = .ok (.if_icmp .eq 6, 3) := by decide +kernel
theorem dX5_copy_66 : decode cX5_copy 66 = .ok (.bipush (-12), 2) := by decide +kernel
theorem dX5_copy_68 : decode cX5_copy 68 = .ok (.ireturn, 1) := by decide +kernel
theorem dX5_copy_69 : decode cX5_copy 69 = .ok (.aload 6, 2) := by decide +kernel
theorem dX5_copy_71 : decode cX5_copy 71 = .ok (.iload_n 2, 1) := by decide +kernel
theorem dX5_copy_72 : decode cX5_copy 72 = .ok (.iload 5, 2) := by decide +kernel
theorem dX5_copy_74 : decode cX5_copy 74 = .ok (.invokevirtual 262, 3) := by decide +kernel
theorem dX5_copy_77 : decode cX5_copy 77 = .ok (.ifCond .eq 15, 3) := by decide +kernel
theorem dX5_copy_80 : decode cX5_copy 80 = .ok (.aload 7, 2) := by decide +kernel
theorem dX5_copy_82 : decode cX5_copy 82 = .ok (.iload 4, 2) := by decide +kernel
theorem dX5_copy_84 : decode cX5_copy 84 = .ok (.iload 5, 2) := by decide +kernel
theorem dX5_copy_86 : decode cX5_copy 86 = .ok (.invokevirtual 262, 3) := by decide +kernel
theorem dX5_copy_89 : decode cX5_copy 89 = .ok (.ifCond .ne 6, 3) := by decide +kernel
theorem dX5_copy_92 : decode cX5_copy 92 = .ok (.bipush (-13), 2) := by decide +kernel
theorem dX5_copy_94 : decode cX5_copy 94 = .ok (.ireturn, 1) := by decide +kernel
theorem dX5_copy_95 : decode cX5_copy 95 = .ok (.aload 6, 2) := by decide +kernel
theorem dX5_copy_97 : decode cX5_copy 97 = .ok (.getfield 265, 3) := by decide +kernel
theorem dX5_copy_100 : decode cX5_copy 100 = .ok (.iload_n 2, 1) := by decide +kernel
theorem dX5_copy_101 : decode cX5_copy 101 = .ok (.aload 7, 2) := by decide +kernel
theorem dX5_copy_103 : decode cX5_copy 103 = .ok (.getfield 265, 3) := by decide +kernel
theorem dX5_copy_106 : decode cX5_copy 106 = .ok (.iload 4, 2) := by decide +kernel
theorem dX5_copy_108 : decode cX5_copy 108 = .ok (.iload 5, 2) := by decide +kernel
theorem dX5_copy_110 : decode cX5_copy 110 = .ok (.invokestatic 269, 3) := by decide +kernel
theorem dX5_copy_113 : decode cX5_copy 113 = .ok (.iload 5, 2) := by decide +kernel
theorem dX5_copy_115 : decode cX5_copy 115 = .ok (.ireturn, 1) := by decide +kernel
theorem dX5_kindsTold_0 : decode cX5_kindsTold 0 = .ok (.aload_n 0, 1) := by decide +kernel
theorem dX5_kindsTold_1 : decode cX5_kindsTold 1 = .ok (.getfield 12, 3) := by decide +kernel
theorem dX5_kindsTold_4 : decode cX5_kindsTold 4 = .ok (.iload_n 1, 1) := by decide +kernel
theorem dX5_kindsTold_5 : decode cX5_kindsTold 5 = .ok (.aload_n 0, 1) := by decide +kernel
theorem dX5_kindsTold_6 : decode cX5_kindsTold 6 = .ok (.getfield 12, 3) := by decide +kernel
theorem dX5_kindsTold_9 : decode cX5_kindsTold 9 = .ok (.getfield 69, 3) := by decide +kernel
theorem dX5_kindsTold_12 : decode cX5_kindsTold 12 = .ok (.iload_n 1, 1) := by decide +kernel
theorem dX5_kindsTold_13 : decode cX5_kindsTold 13 = .ok (.iaload, 1) := by decide +kernel
theorem dX5_kindsTold_14 : decode cX5_kindsTold 14 = .ok (.invokevirtual 275, 3) := by decide +kernel
theorem dX5_kindsTold_17 : decode cX5_kindsTold 17 = .ok (.istore 5, 2) := by decide +kernel
theorem dX5_kindsTold_19 : decode cX5_kindsTold 19 = .ok (.iconst 0, 1) := by decide +kernel
theorem dX5_kindsTold_20 : decode cX5_kindsTold 20 = .ok (.istore 6, 2) := by decide +kernel
theorem dX5_kindsTold_22 : decode cX5_kindsTold 22 = .ok (.iconst 0, 1) := by decide +kernel
theorem dX5_kindsTold_23 : decode cX5_kindsTold 23 = .ok (.istore 7, 2) := by decide +kernel
theorem dX5_kindsTold_25 : decode cX5_kindsTold 25 = .ok (.iload 7, 2) := by decide +kernel
theorem dX5_kindsTold_27 : decode cX5_kindsTold 27 = .ok (.iconst 5, 1) := by decide +kernel
theorem dX5_kindsTold_28 : decode cX5_kindsTold 28 = .ok (.if_icmp .ge 34, 3) := by decide +kernel
theorem dX5_kindsTold_31 : decode cX5_kindsTold 31 = .ok (.aload_n 0, 1) := by decide +kernel
theorem dX5_kindsTold_32 : decode cX5_kindsTold 32 = .ok (.iload_n 1, 1) := by decide +kernel
theorem dX5_kindsTold_33 : decode cX5_kindsTold 33 = .ok (.iload 7, 2) := by decide +kernel
theorem dX5_kindsTold_35 : decode cX5_kindsTold 35 = .ok (.iload 5, 2) := by decide +kernel
theorem dX5_kindsTold_37 : decode cX5_kindsTold 37 = .ok (.aload_n 2, 1) := by decide +kernel
theorem dX5_kindsTold_38 : decode cX5_kindsTold 38 = .ok (.iload_n 3, 1) := by decide +kernel
theorem dX5_kindsTold_39 : decode cX5_kindsTold 39 = .ok (.iload 4, 2) := by decide +kernel
theorem dX5_kindsTold_41 : decode cX5_kindsTold 41 = .ok (.invokevirtual 278, 3) := by decide +kernel
theorem dX5_kindsTold_44 : decode cX5_kindsTold 44 = .ok (.ifCond .eq 12, 3) := by decide +kernel
theorem dX5_kindsTold_47 : decode cX5_kindsTold 47 = .ok (.iload 6, 2) := by decide +kernel
theorem dX5_kindsTold_49 : decode cX5_kindsTold 49 = .ok (.iconst 1, 1) := by decide +kernel
theorem dX5_kindsTold_50 : decode cX5_kindsTold 50 = .ok (.iload 7, 2) := by decide +kernel
theorem dX5_kindsTold_52 : decode cX5_kindsTold 52 = .ok (.ishl, 1) := by decide +kernel
theorem dX5_kindsTold_53 : decode cX5_kindsTold 53 = .ok (.ior, 1) := by decide +kernel
theorem dX5_kindsTold_54 : decode cX5_kindsTold 54 = .ok (.istore 6, 2) := by decide +kernel
theorem dX5_kindsTold_56 : decode cX5_kindsTold 56 = .ok (.iinc 7 1, 3) := by decide +kernel
theorem dX5_kindsTold_59 : decode cX5_kindsTold 59 = .ok (.goto (-34), 3) := by decide +kernel
theorem dX5_kindsTold_62 : decode cX5_kindsTold 62 = .ok (.iload 6, 2) := by decide +kernel
theorem dX5_kindsTold_64 : decode cX5_kindsTold 64 = .ok (.ireturn, 1) := by decide +kernel
theorem dX5_lovesTold_0 : decode cX5_lovesTold 0 = .ok (.iconst 0, 1) := by decide +kernel
theorem dX5_lovesTold_1 : decode cX5_lovesTold 1 = .ok (.istore 5, 2) := by decide +kernel
theorem dX5_lovesTold_3 : decode cX5_lovesTold 3 = .ok (.iconst 0, 1) := by decide +kernel
theorem dX5_lovesTold_4 : decode cX5_lovesTold 4 = .ok (.istore 6, 2) := by decide +kernel
theorem dX5_lovesTold_6 : decode cX5_lovesTold 6 = .ok (.iload 6, 2) := by decide +kernel
theorem dX5_lovesTold_8 : decode cX5_lovesTold 8 = .ok (.aload_n 0, 1) := by decide +kernel
theorem dX5_lovesTold_9 : decode cX5_lovesTold 9 = .ok (.getfield 12, 3) := by decide +kernel
theorem dX5_lovesTold_12 : decode cX5_lovesTold 12 = .ok (.getfield 54, 3) := by decide +kernel
theorem dX5_lovesTold_15 : decode cX5_lovesTold 15 = .ok (.if_icmp .ge 49, 3) := by decide +kernel
theorem dX5_lovesTold_18 : decode cX5_lovesTold 18 = .ok (.aload_n 0, 1) := by decide +kernel
theorem dX5_lovesTold_19 : decode cX5_lovesTold 19 = .ok (.iload_n 1, 1) := by decide +kernel
theorem dX5_lovesTold_20 : decode cX5_lovesTold 20 = .ok (.aload_n 0, 1) := by decide +kernel
theorem dX5_lovesTold_21 : decode cX5_lovesTold 21 = .ok (.getfield 12, 3) := by decide +kernel
theorem dX5_lovesTold_24 : decode cX5_lovesTold 24 = .ok (.getfield 76, 3) := by decide +kernel
theorem dX5_lovesTold_27 : decode cX5_lovesTold 27 = .ok (.iload_n 1, 1) := by decide +kernel
theorem dX5_lovesTold_28 : decode cX5_lovesTold 28 = .ok (.iaload, 1) := by decide +kernel
theorem dX5_lovesTold_29 : decode cX5_lovesTold 29 = .ok (.aload_n 0, 1) := by decide +kernel
theorem dX5_lovesTold_30 : decode cX5_lovesTold 30 = .ok (.getfield 12, 3) := by decide +kernel
theorem dX5_lovesTold_33 : decode cX5_lovesTold 33 = .ok (.iload_n 1, 1) := by decide +kernel
theorem dX5_lovesTold_34 : decode cX5_lovesTold 34 = .ok (.iload 6, 2) := by decide +kernel
theorem dX5_lovesTold_36 : decode cX5_lovesTold 36 = .ok (.invokevirtual 275, 3) := by decide +kernel
theorem dX5_lovesTold_39 : decode cX5_lovesTold 39 = .ok (.aload_n 2, 1) := by decide +kernel
theorem dX5_lovesTold_40 : decode cX5_lovesTold 40 = .ok (.iload_n 3, 1) := by decide +kernel
theorem dX5_lovesTold_41 : decode cX5_lovesTold 41 = .ok (.iload 4, 2) := by decide +kernel
theorem dX5_lovesTold_43 : decode cX5_lovesTold 43 = .ok (.invokevirtual 278, 3) := by decide +kernel
theorem dX5_lovesTold_46 : decode cX5_lovesTold 46 = .ok (.ifCond .eq 12, 3) := by decide +kernel
theorem dX5_lovesTold_49 : decode cX5_lovesTold 49 = .ok (.iload 5, 2) := by decide +kernel
theorem dX5_lovesTold_51 : decode cX5_lovesTold 51 = .ok (.iconst 1, 1) := by decide +kernel
theorem dX5_lovesTold_52 : decode cX5_lovesTold 52 = .ok (.iload 6, 2) := by decide +kernel
theorem dX5_lovesTold_54 : decode cX5_lovesTold 54 = .ok (.ishl, 1) := by decide +kernel
theorem dX5_lovesTold_55 : decode cX5_lovesTold 55 = .ok (.ior, 1) := by decide +kernel
theorem dX5_lovesTold_56 : decode cX5_lovesTold 56 = .ok (.istore 5, 2) := by decide +kernel
theorem dX5_lovesTold_58 : decode cX5_lovesTold 58 = .ok (.iinc 6 1, 3) := by decide +kernel
theorem dX5_lovesTold_61 : decode cX5_lovesTold 61 = .ok (.goto (-55), 3) := by decide +kernel
theorem dX5_lovesTold_64 : decode cX5_lovesTold 64 = .ok (.iload 5, 2) := by decide +kernel
theorem dX5_lovesTold_66 : decode cX5_lovesTold 66 = .ok (.ireturn, 1) := by decide +kernel
theorem dX5_isAsTold_0 : decode cX5_isAsTold 0 = .ok (.aload_n 0, 1) := by decide +kernel
theorem dX5_isAsTold_1 : decode cX5_isAsTold 1 = .ok (.getfield 12, 3) := by decide +kernel
theorem dX5_isAsTold_4 : decode cX5_isAsTold 4 = .ok (.getfield 79, 3) := by decide +kernel
theorem dX5_isAsTold_7 : decode cX5_isAsTold 7 = .ok (.astore 7, 2) := by decide +kernel
theorem dX5_isAsTold_9 : decode cX5_isAsTold 9 = .ok (.iconst 0, 1) := by decide +kernel
theorem dX5_isAsTold_10 : decode cX5_isAsTold 10 = .ok (.istore 8, 2) := by decide +kernel
theorem dX5_isAsTold_12 : decode cX5_isAsTold 12 = .ok (.iload 8, 2) := by decide +kernel
theorem dX5_isAsTold_14 : decode cX5_isAsTold 14 = .ok (.iload 6, 2) := by decide +kernel
theorem dX5_isAsTold_16 : decode cX5_isAsTold 16 = .ok (.if_icmp .ge 55, 3) := by decide +kernel
theorem dX5_isAsTold_19 : decode cX5_isAsTold 19 = .ok (.iload_n 2, 1) := by decide +kernel
theorem dX5_isAsTold_20 : decode cX5_isAsTold 20 = .ok (.iload 8, 2) := by decide +kernel
theorem dX5_isAsTold_22 : decode cX5_isAsTold 22 = .ok (.aload 7, 2) := by decide +kernel
theorem dX5_isAsTold_24 : decode cX5_isAsTold 24 = .ok (.getfield 88, 3) := by decide +kernel
theorem dX5_isAsTold_27 : decode cX5_isAsTold 27 = .ok (.iload_n 1, 1) := by decide +kernel
theorem dX5_isAsTold_28 : decode cX5_isAsTold 28 = .ok (.iaload, 1) := by decide +kernel
theorem dX5_isAsTold_29 : decode cX5_isAsTold 29 = .ok (.iload_n 3, 1) := by decide +kernel
theorem dX5_isAsTold_30 : decode cX5_isAsTold 30 = .ok (.aload 7, 2) := by decide +kernel
theorem dX5_isAsTold_32 : decode cX5_isAsTold 32 = .ok (.getfield 113, 3) := by decide +kernel
theorem dX5_isAsTold_35 : decode cX5_isAsTold 35 = .ok (.aload 7, 2) := by decide +kernel
theorem dX5_isAsTold_37 : decode cX5_isAsTold 37 = .ok (.getfield 116, 3) := by decide +kernel
theorem dX5_isAsTold_40 : decode cX5_isAsTold 40 = .ok (.invokestatic 282, 3) := by decide +kernel
theorem dX5_isAsTold_43 : decode cX5_isAsTold 43 = .ok (.istore 9, 2) := by decide +kernel
theorem dX5_isAsTold_45 : decode cX5_isAsTold 45 = .ok (.aload 4, 2) := by decide +kernel
theorem dX5_isAsTold_47 : decode cX5_isAsTold 47 = .ok (.getfield 265, 3) := by decide +kernel
theorem dX5_isAsTold_50 : decode cX5_isAsTold 50 = .ok (.iload 5, 2) := by decide +kernel
theorem dX5_isAsTold_52 : decode cX5_isAsTold 52 = .ok (.iload 8, 2) := by decide +kernel
theorem dX5_isAsTold_54 : decode cX5_isAsTold 54 = .ok (.iadd, 1) := by decide +kernel
theorem dX5_isAsTold_55 : decode cX5_isAsTold 55 = .ok (.laload, 1) := by decide +kernel
theorem dX5_isAsTold_56 : decode cX5_isAsTold 56 = .ok (.iload 9, 2) := by decide +kernel
theorem dX5_isAsTold_58 : decode cX5_isAsTold 58 = .ok (.i2l, 1) := by decide +kernel
theorem dX5_isAsTold_59 : decode cX5_isAsTold 59 = .ok (.lcmp, 1) := by decide +kernel
theorem dX5_isAsTold_60 : decode cX5_isAsTold 60 = .ok (.ifCond .eq 5, 3) := by decide +kernel
theorem dX5_isAsTold_63 : decode cX5_isAsTold 63 = .ok (.iconst 0, 1) := by decide +kernel
theorem dX5_isAsTold_64 : decode cX5_isAsTold 64 = .ok (.ireturn, 1) := by decide +kernel
theorem dX5_isAsTold_65 : decode cX5_isAsTold 65 = .ok (.iinc 8 1, 3) := by decide +kernel
theorem dX5_isAsTold_68 : decode cX5_isAsTold 68 = .ok (.goto (-56), 3) := by decide +kernel
theorem dX5_isAsTold_71 : decode cX5_isAsTold 71 = .ok (.iconst 1, 1) := by decide +kernel
theorem dX5_isAsTold_72 : decode cX5_isAsTold 72 = .ok (.ireturn, 1) := by decide +kernel
theorem dX5_isWithin_0 : decode cX5_isWithin 0 = .ok (.iload_n 0, 1) := by decide +kernel
theorem dX5_isWithin_1 : decode cX5_isWithin 1 = .ok (.iload_n 1, 1) := by decide +kernel
theorem dX5_isWithin_2 : decode cX5_isWithin 2 = .ok (.if_icmp .lt 12, 3) := by decide +kernel
theorem dX5_isWithin_5 : decode cX5_isWithin 5 = .ok (.iload_n 0, 1) := by decide +kernel
theorem dX5_isWithin_6 : decode cX5_isWithin 6 = .ok (.iload_n 2, 1) := by decide +kernel
theorem dX5_isWithin_7 : decode cX5_isWithin 7 = .ok (.if_icmp .gt 7, 3) := by decide +kernel
theorem dX5_isWithin_10 : decode cX5_isWithin 10 = .ok (.iconst 1, 1) := by decide +kernel
theorem dX5_isWithin_11 : decode cX5_isWithin 11 = .ok (.goto 4, 3) := by decide +kernel
theorem dX5_isWithin_14 : decode cX5_isWithin 14 = .ok (.iconst 0, 1) := by decide +kernel
theorem dX5_isWithin_15 : decode cX5_isWithin 15 = .ok (.ireturn, 1) := by decide +kernel
theorem dX5_isFlag_0 : decode cX5_isFlag 0 = .ok (.iload_n 0, 1) := by decide +kernel
theorem dX5_isFlag_1 : decode cX5_isFlag 1 = .ok (.ifCond .eq 8, 3) := by decide +kernel
theorem dX5_isFlag_4 : decode cX5_isFlag 4 = .ok (.iload_n 0, 1) := by decide +kernel
theorem dX5_isFlag_5 : decode cX5_isFlag 5 = .ok (.iconst 1, 1) := by decide +kernel
theorem dX5_isFlag_6 : decode cX5_isFlag 6 = .ok (.if_icmp .ne 7, 3) := by decide +kernel
theorem dX5_isFlag_9 : decode cX5_isFlag 9 = .ok (.iconst 1, 1) := by decide +kernel
theorem dX5_isFlag_10 : decode cX5_isFlag 10 = .ok (.goto 4, 3) := by decide +kernel
theorem dX5_isFlag_13 : decode cX5_isFlag 13 = .ok (.iconst 0, 1) := by decide +kernel
theorem dX5_isFlag_14 : decode cX5_isFlag 14 = .ok (.ireturn, 1) := by decide +kernel
theorem dX5_isSunday_0 : decode cX5_isSunday 0 = .ok (.iload_n 0, 1) := by decide +kernel
theorem dX5_isSunday_1 : decode cX5_isSunday 1 = .ok (.iconst 0, 1) := by decide +kernel
theorem dX5_isSunday_2 : decode cX5_isSunday 2 = .ok (.iconst 5, 1) := by decide +kernel
theorem dX5_isSunday_3 : decode cX5_isSunday 3 = .ok (.invokestatic 50, 3) := by decide +kernel
theorem dX5_isSunday_6 : decode cX5_isSunday 6 = .ok (.ireturn, 1) := by decide +kernel
theorem dX5_isHalf_0 : decode cX5_isHalf 0 = .ok (.iload_n 0, 1) := by decide +kernel
theorem dX5_isHalf_1 : decode cX5_isHalf 1 = .ok (.iconst 0, 1) := by decide +kernel
theorem dX5_isHalf_2 : decode cX5_isHalf 2 = .ok (.bipush 11, 2) := by decide +kernel
theorem dX5_isHalf_4 : decode cX5_isHalf 4 = .ok (.invokestatic 50, 3) := by decide +kernel
theorem dX5_isHalf_7 : decode cX5_isHalf 7 = .ok (.ireturn, 1) := by decide +kernel
theorem dX5_isSheet_0 : decode cX5_isSheet 0 = .ok (.iload_n 0, 1) := by decide +kernel
theorem dX5_isSheet_1 : decode cX5_isSheet 1 = .ok (.iconst 0, 1) := by decide +kernel
theorem dX5_isSheet_2 : decode cX5_isSheet 2 = .ok (.iconst 3, 1) := by decide +kernel
theorem dX5_isSheet_3 : decode cX5_isSheet 3 = .ok (.invokestatic 50, 3) := by decide +kernel
theorem dX5_isSheet_6 : decode cX5_isSheet 6 = .ok (.ireturn, 1) := by decide +kernel
theorem dX5_isLane_0 : decode cX5_isLane 0 = .ok (.iload_n 0, 1) := by decide +kernel
theorem dX5_isLane_1 : decode cX5_isLane 1 = .ok (.iconst 0, 1) := by decide +kernel
theorem dX5_isLane_2 : decode cX5_isLane 2 = .ok (.iconst 3, 1) := by decide +kernel
theorem dX5_isLane_3 : decode cX5_isLane 3 = .ok (.invokestatic 50, 3) := by decide +kernel
theorem dX5_isLane_6 : decode cX5_isLane 6 = .ok (.ireturn, 1) := by decide +kernel
theorem dX5_isIn_0 : decode cX5_isIn 0 = .ok (.iload_n 0, 1) := by decide +kernel
theorem dX5_isIn_1 : decode cX5_isIn 1 = .ok (.iload_n 1, 1) := by decide +kernel
theorem dX5_isIn_2 : decode cX5_isIn 2 = .ok (.ishr, 1) := by decide +kernel
theorem dX5_isIn_3 : decode cX5_isIn 3 = .ok (.iconst 1, 1) := by decide +kernel
theorem dX5_isIn_4 : decode cX5_isIn 4 = .ok (.iand, 1) := by decide +kernel
theorem dX5_isIn_5 : decode cX5_isIn 5 = .ok (.ifCond .eq 7, 3) := by decide +kernel
theorem dX5_isIn_8 : decode cX5_isIn 8 = .ok (.iconst 1, 1) := by decide +kernel
theorem dX5_isIn_9 : decode cX5_isIn 9 = .ok (.goto 4, 3) := by decide +kernel
theorem dX5_isIn_12 : decode cX5_isIn 12 = .ok (.iconst 0, 1) := by decide +kernel
theorem dX5_isIn_13 : decode cX5_isIn 13 = .ok (.ireturn, 1) := by decide +kernel
theorem dX5_lengthFrom_0 : decode cX5_lengthFrom 0 = .ok (.iconst 0, 1) := by decide +kernel
theorem dX5_lengthFrom_1 : decode cX5_lengthFrom 1 = .ok (.istore_n 2, 1) := by decide +kernel
theorem dX5_lengthFrom_2 : decode cX5_lengthFrom 2 = .ok (.iload_n 1, 1) := by decide +kernel
theorem dX5_lengthFrom_3 : decode cX5_lengthFrom 3 = .ok (.iload_n 2, 1) := by decide +kernel
theorem dX5_lengthFrom_4 : decode cX5_lengthFrom 4 = .ok (.iadd, 1) := by decide +kernel
theorem dX5_lengthFrom_5 : decode cX5_lengthFrom 5 = .ok (.bipush 12, 2) := by decide +kernel
theorem dX5_lengthFrom_7 : decode cX5_lengthFrom 7 = .ok (.if_icmp .ge 19, 3) := by decide +kernel
theorem dX5_lengthFrom_10 : decode cX5_lengthFrom 10 = .ok (.iload_n 0, 1) := by decide +kernel
theorem dX5_lengthFrom_11 : decode cX5_lengthFrom 11 = .ok (.iload_n 1, 1) := by decide +kernel
theorem dX5_lengthFrom_12 : decode cX5_lengthFrom 12 = .ok (.iload_n 2, 1) := by decide +kernel
theorem dX5_lengthFrom_13 : decode cX5_lengthFrom 13 = .ok (.iadd, 1) := by decide +kernel
theorem dX5_lengthFrom_14 : decode cX5_lengthFrom 14 = .ok (.invokestatic 119, 3) := by decide +kernel
theorem dX5_lengthFrom_17 : decode cX5_lengthFrom 17 = .ok (.ifCond .eq 9, 3) := by decide +kernel
theorem dX5_lengthFrom_20 : decode cX5_lengthFrom 20 = .ok (.iinc 2 1, 3) := by decide +kernel
theorem dX5_lengthFrom_23 : decode cX5_lengthFrom 23 = .ok (.goto (-21), 3) := by decide +kernel
theorem dX5_lengthFrom_26 : decode cX5_lengthFrom 26 = .ok (.iload_n 2, 1) := by decide +kernel
theorem dX5_lengthFrom_27 : decode cX5_lengthFrom 27 = .ok (.ireturn, 1) := by decide +kernel
theorem dX5_power_0 : decode cX5_power 0 = .ok (.iconst 1, 1) := by decide +kernel
theorem dX5_power_1 : decode cX5_power 1 = .ok (.istore_n 2, 1) := by decide +kernel
theorem dX5_power_2 : decode cX5_power 2 = .ok (.iconst 0, 1) := by decide +kernel
theorem dX5_power_3 : decode cX5_power 3 = .ok (.istore_n 3, 1) := by decide +kernel
theorem dX5_power_4 : decode cX5_power 4 = .ok (.iload_n 3, 1) := by decide +kernel
theorem dX5_power_5 : decode cX5_power 5 = .ok (.iload_n 1, 1) := by decide +kernel
theorem dX5_power_6 : decode cX5_power 6 = .ok (.if_icmp .ge 13, 3) := by decide +kernel
theorem dX5_power_9 : decode cX5_power 9 = .ok (.iload_n 2, 1) := by decide +kernel
theorem dX5_power_10 : decode cX5_power 10 = .ok (.iload_n 0, 1) := by decide +kernel
theorem dX5_power_11 : decode cX5_power 11 = .ok (.imul, 1) := by decide +kernel
theorem dX5_power_12 : decode cX5_power 12 = .ok (.istore_n 2, 1) := by decide +kernel
theorem dX5_power_13 : decode cX5_power 13 = .ok (.iinc 3 1, 3) := by decide +kernel
theorem dX5_power_16 : decode cX5_power 16 = .ok (.goto (-12), 3) := by decide +kernel
theorem dX5_power_19 : decode cX5_power 19 = .ok (.iload_n 2, 1) := by decide +kernel
theorem dX5_power_20 : decode cX5_power 20 = .ok (.ireturn, 1) := by decide +kernel
theorem dX5_greatestDivisor_0 : decode cX5_greatestDivisor 0 = .ok (.iconst 0, 1) := by decide +kernel
theorem dX5_greatestDivisor_1 : decode cX5_greatestDivisor 1 = .ok (.istore_n 2, 1) := by decide +kernel
theorem dX5_greatestDivisor_2 : decode cX5_greatestDivisor 2 = .ok (.iload_n 2, 1) := by decide +kernel
theorem dX5_greatestDivisor_3 : decode cX5_greatestDivisor 3 = .ok (.bipush 64, 2) := by decide +kernel
theorem dX5_greatestDivisor_5 : decode cX5_greatestDivisor 5 = .ok (.if_icmp .ge 21, 3) := by decide +kernel
theorem dX5_greatestDivisor_8 : decode cX5_greatestDivisor 8 = .ok (.iload_n 1, 1) := by decide +kernel
theorem dX5_greatestDivisor_9 : decode cX5_greatestDivisor 9 = .ok (.ifCond .eq 17, 3) := by decide +kernel
theorem dX5_greatestDivisor_12 : decode cX5_greatestDivisor 12 = .ok (.iload_n 0, 1) := by decide +kernel
theorem dX5_greatestDivisor_13 : decode cX5_greatestDivisor 13 = .ok (.iload_n 1, 1) := by decide +kernel
theorem dX5_greatestDivisor_14 : decode cX5_greatestDivisor 14 = .ok (.irem, 1) := by decide +kernel
theorem dX5_greatestDivisor_15 : decode cX5_greatestDivisor 15 = .ok (.istore_n 3, 1) := by decide +kernel
theorem dX5_greatestDivisor_16 : decode cX5_greatestDivisor 16 = .ok (.iload_n 1, 1) := by decide +kernel
theorem dX5_greatestDivisor_17 : decode cX5_greatestDivisor 17 = .ok (.istore_n 0, 1) := by decide +kernel
theorem dX5_greatestDivisor_18 : decode cX5_greatestDivisor 18 = .ok (.iload_n 3, 1) := by decide +kernel
theorem dX5_greatestDivisor_19 : decode cX5_greatestDivisor 19 = .ok (.istore_n 1, 1) := by decide +kernel
theorem dX5_greatestDivisor_20 : decode cX5_greatestDivisor 20 = .ok (.iinc 2 1, 3) := by decide +kernel
theorem dX5_greatestDivisor_23 : decode cX5_greatestDivisor 23 = .ok (.goto (-21), 3) := by decide +kernel
theorem dX5_greatestDivisor_26 : decode cX5_greatestDivisor 26 = .ok (.iload_n 0, 1) := by decide +kernel
theorem dX5_greatestDivisor_27 : decode cX5_greatestDivisor 27 = .ok (.ireturn, 1) := by decide +kernel
theorem dX5_saleOf_0 : decode cX5_saleOf 0 = .ok (.sipush 1000, 3) := by decide +kernel
theorem dX5_saleOf_3 : decode cX5_saleOf 3 = .ok (.iload_n 0, 1) := by decide +kernel
theorem dX5_saleOf_4 : decode cX5_saleOf 4 = .ok (.imul, 1) := by decide +kernel
theorem dX5_saleOf_5 : decode cX5_saleOf 5 = .ok (.bipush 100, 2) := by decide +kernel
theorem dX5_saleOf_7 : decode cX5_saleOf 7 = .ok (.iload_n 1, 1) := by decide +kernel
theorem dX5_saleOf_8 : decode cX5_saleOf 8 = .ok (.imul, 1) := by decide +kernel
theorem dX5_saleOf_9 : decode cX5_saleOf 9 = .ok (.iadd, 1) := by decide +kernel
theorem dX5_saleOf_10 : decode cX5_saleOf 10 = .ok (.iload_n 2, 1) := by decide +kernel
theorem dX5_saleOf_11 : decode cX5_saleOf 11 = .ok (.iadd, 1) := by decide +kernel
theorem dX5_saleOf_12 : decode cX5_saleOf 12 = .ok (.ireturn, 1) := by decide +kernel
theorem dX5_sellerOf_0 : decode cX5_sellerOf 0 = .ok (.iload_n 0, 1) := by decide +kernel
theorem dX5_sellerOf_1 : decode cX5_sellerOf 1 = .ok (.sipush 1000, 3) := by decide +kernel
theorem dX5_sellerOf_4 : decode cX5_sellerOf 4 = .ok (.idiv, 1) := by decide +kernel
theorem dX5_sellerOf_5 : decode cX5_sellerOf 5 = .ok (.ireturn, 1) := by decide +kernel
theorem dX5_buyerOf_0 : decode cX5_buyerOf 0 = .ok (.iload_n 0, 1) := by decide +kernel
theorem dX5_buyerOf_1 : decode cX5_buyerOf 1 = .ok (.bipush 100, 2) := by decide +kernel
theorem dX5_buyerOf_3 : decode cX5_buyerOf 3 = .ok (.idiv, 1) := by decide +kernel
theorem dX5_buyerOf_4 : decode cX5_buyerOf 4 = .ok (.bipush 10, 2) := by decide +kernel
theorem dX5_buyerOf_6 : decode cX5_buyerOf 6 = .ok (.irem, 1) := by decide +kernel
theorem dX5_buyerOf_7 : decode cX5_buyerOf 7 = .ok (.ireturn, 1) := by decide +kernel
theorem dX5_halfOf_0 : decode cX5_halfOf 0 = .ok (.iload_n 0, 1) := by decide +kernel
theorem dX5_halfOf_1 : decode cX5_halfOf 1 = .ok (.bipush 100, 2) := by decide +kernel
theorem dX5_halfOf_3 : decode cX5_halfOf 3 = .ok (.irem, 1) := by decide +kernel
theorem dX5_halfOf_4 : decode cX5_halfOf 4 = .ok (.ireturn, 1) := by decide +kernel
theorem dX5_worthByKind_0 : decode cX5_worthByKind 0 = .ok (.iload_n 2, 1) := by decide +kernel
theorem dX5_worthByKind_1 : decode cX5_worthByKind 1 = .ok (.iload_n 1, 1) := by decide +kernel
theorem dX5_worthByKind_2 : decode cX5_worthByKind 2 = .ok (.invokestatic 119, 3) := by decide +kernel
theorem dX5_worthByKind_5 : decode cX5_worthByKind 5 = .ok (.ifCond .ne 5, 3) := by decide +kernel
theorem dX5_worthByKind_8 : decode cX5_worthByKind 8 = .ok (.iconst 0, 1) := by decide +kernel
theorem dX5_worthByKind_9 : decode cX5_worthByKind 9 = .ok (.ireturn, 1) := by decide +kernel
theorem dX5_worthByKind_10 : decode cX5_worthByKind 10 = .ok (.iload_n 1, 1) := by decide +kernel
theorem dX5_worthByKind_11 : decode cX5_worthByKind 11 = .ok (.iconst 2, 1) := by decide +kernel
theorem dX5_worthByKind_12 : decode cX5_worthByKind 12 = .ok (.irem, 1) := by decide +kernel
theorem dX5_worthByKind_13 : decode cX5_worthByKind 13 = .ok (.ifCond .ne 7, 3) := by decide +kernel
theorem dX5_worthByKind_16 : decode cX5_worthByKind 16 = .ok (.iconst 1, 1) := by decide +kernel
theorem dX5_worthByKind_17 : decode cX5_worthByKind 17 = .ok (.goto 4, 3) := by decide +kernel
theorem dX5_worthByKind_20 : decode cX5_worthByKind 20 = .ok (.iconst 0, 1) := by decide +kernel
theorem dX5_worthByKind_21 : decode cX5_worthByKind 21 = .ok (.istore 6, 2) := by decide +kernel
theorem dX5_worthByKind_23 : decode cX5_worthByKind 23 = .ok (.iload_n 0, 1) := by decide +kernel
theorem dX5_worthByKind_24 : decode cX5_worthByKind 24 = .ok (.iconst 4, 1) := by decide +kernel
theorem dX5_worthByKind_25 : decode cX5_worthByKind 25 = .ok (.if_icmp .ne 10, 3) := by decide +kernel
theorem dX5_worthByKind_28 : decode cX5_worthByKind 28 = .ok (.iload 6, 2) := by decide +kernel
theorem dX5_worthByKind_30 : decode cX5_worthByKind 30 = .ok (.ifCond .eq 5, 3) := by decide +kernel
theorem dX5_worthByKind_33 : decode cX5_worthByKind 33 = .ok (.iconst 0, 1) := by decide +kernel
theorem dX5_worthByKind_34 : decode cX5_worthByKind 34 = .ok (.ireturn, 1) := by decide +kernel
theorem dX5_worthByKind_35 : decode cX5_worthByKind 35 = .ok (.iload_n 1, 1) := by decide +kernel
theorem dX5_worthByKind_36 : decode cX5_worthByKind 36 = .ok (.iconst 2, 1) := by decide +kernel
theorem dX5_worthByKind_37 : decode cX5_worthByKind 37 = .ok (.idiv, 1) := by decide +kernel
theorem dX5_worthByKind_38 : decode cX5_worthByKind 38 = .ok (.istore 7, 2) := by decide +kernel
theorem dX5_worthByKind_40 : decode cX5_worthByKind 40 = .ok (.iload 4, 2) := by decide +kernel
theorem dX5_worthByKind_42 : decode cX5_worthByKind 42 = .ok (.iload 7, 2) := by decide +kernel
theorem dX5_worthByKind_44 : decode cX5_worthByKind 44 = .ok (.invokestatic 119, 3) := by decide +kernel
theorem dX5_worthByKind_47 : decode cX5_worthByKind 47 = .ok (.ifCond .eq 7, 3) := by decide +kernel
theorem dX5_worthByKind_50 : decode cX5_worthByKind 50 = .ok (.iconst 3, 1) := by decide +kernel
theorem dX5_worthByKind_51 : decode cX5_worthByKind 51 = .ok (.goto 5, 3) := by decide +kernel
theorem dX5_worthByKind_54 : decode cX5_worthByKind 54 = .ok (.bipush 6, 2) := by decide +kernel
theorem dX5_worthByKind_56 : decode cX5_worthByKind 56 = .ok (.istore 8, 2) := by decide +kernel
theorem dX5_worthByKind_58 : decode cX5_worthByKind 58 = .ok (.iload_n 0, 1) := by decide +kernel
theorem dX5_worthByKind_59 : decode cX5_worthByKind 59 = .ok (.iconst 1, 1) := by decide +kernel
theorem dX5_worthByKind_60 : decode cX5_worthByKind 60 = .ok (.if_icmp .eq 8, 3) := by decide +kernel
theorem dX5_worthByKind_63 : decode cX5_worthByKind 63 = .ok (.iload_n 0, 1) := by decide +kernel
theorem dX5_worthByKind_64 : decode cX5_worthByKind 64 = .ok (.iconst 3, 1) := by decide +kernel
theorem dX5_worthByKind_65 : decode cX5_worthByKind 65 = .ok (.if_icmp .ne 16, 3) := by decide +kernel
theorem dX5_worthByKind_68 : decode cX5_worthByKind 68 = .ok (.iload 5, 2) := by decide +kernel
theorem dX5_worthByKind_70 : decode cX5_worthByKind 70 = .ok (.iload 7, 2) := by decide +kernel
theorem dX5_worthByKind_72 : decode cX5_worthByKind 72 = .ok (.invokestatic 119, 3) := by decide +kernel
theorem dX5_worthByKind_75 : decode cX5_worthByKind 75 = .ok (.ifCond .eq 6, 3) := by decide +kernel
theorem dX5_worthByKind_78 : decode cX5_worthByKind 78 = .ok (.iinc 8 9, 3) := by decide +kernel
theorem dX5_worthByKind_81 : decode cX5_worthByKind 81 = .ok (.iload_n 0, 1) := by decide +kernel
theorem dX5_worthByKind_82 : decode cX5_worthByKind 82 = .ok (.iconst 2, 1) := by decide +kernel
theorem dX5_worthByKind_83 : decode cX5_worthByKind 83 = .ok (.if_icmp .eq 8, 3) := by decide +kernel
theorem dX5_worthByKind_86 : decode cX5_worthByKind 86 = .ok (.iload_n 0, 1) := by decide +kernel
theorem dX5_worthByKind_87 : decode cX5_worthByKind 87 = .ok (.iconst 4, 1) := by decide +kernel
theorem dX5_worthByKind_88 : decode cX5_worthByKind 88 = .ok (.if_icmp .ne 16, 3) := by decide +kernel
theorem dX5_worthByKind_91 : decode cX5_worthByKind 91 = .ok (.iload_n 2, 1) := by decide +kernel
theorem dX5_worthByKind_92 : decode cX5_worthByKind 92 = .ok (.iload_n 1, 1) := by decide +kernel
theorem dX5_worthByKind_93 : decode cX5_worthByKind 93 = .ok (.iconst 1, 1) := by decide +kernel
theorem dX5_worthByKind_94 : decode cX5_worthByKind 94 = .ok (.ixor, 1) := by decide +kernel
theorem dX5_worthByKind_95 : decode cX5_worthByKind 95 = .ok (.invokestatic 119, 3) := by decide +kernel
theorem dX5_worthByKind_98 : decode cX5_worthByKind 98 = .ok (.ifCond .eq 6, 3) := by decide +kernel
theorem dX5_worthByKind_101 : decode cX5_worthByKind 101 = .ok (.iinc 8 4, 3) := by decide +kernel
theorem dX5_worthByKind_104 : decode cX5_worthByKind 104 = .ok (.iload_n 0, 1) := by decide +kernel
theorem dX5_worthByKind_105 : decode cX5_worthByKind 105 = .ok (.iconst 3, 1) := by decide +kernel
theorem dX5_worthByKind_106 : decode cX5_worthByKind 106 = .ok (.if_icmp .ne 14, 3) := by decide +kernel
theorem dX5_worthByKind_109 : decode cX5_worthByKind 109 = .ok (.iload_n 3, 1) := by decide +kernel
theorem dX5_worthByKind_110 : decode cX5_worthByKind 110 = .ok (.iload_n 1, 1) := by decide +kernel
theorem dX5_worthByKind_111 : decode cX5_worthByKind 111 = .ok (.invokestatic 119, 3) := by decide +kernel
theorem dX5_worthByKind_114 : decode cX5_worthByKind 114 = .ok (.ifCond .eq 6, 3) := by decide +kernel
theorem dX5_worthByKind_117 : decode cX5_worthByKind 117 = .ok (.iinc 8 5, 3) := by decide +kernel
theorem dX5_worthByKind_120 : decode cX5_worthByKind 120 = .ok (.iload 8, 2) := by decide +kernel
theorem dX5_worthByKind_122 : decode cX5_worthByKind 122 = .ok (.ireturn, 1) := by decide +kernel
