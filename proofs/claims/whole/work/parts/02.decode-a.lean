theorem dX6_in_0 : decode cX6_in 0 = .ok (.lload_n 0, 1) := by decide +kernel
theorem dX6_in_1 : decode cX6_in 1 = .ok (.lload_n 2, 1) := by decide +kernel
theorem dX6_in_2 : decode cX6_in 2 = .ok (.lcmp, 1) := by decide +kernel
theorem dX6_in_3 : decode cX6_in 3 = .ok (.ifCond .lt 14, 3) := by decide +kernel
theorem dX6_in_6 : decode cX6_in 6 = .ok (.lload_n 0, 1) := by decide +kernel
theorem dX6_in_7 : decode cX6_in 7 = .ok (.lload 4, 2) := by decide +kernel
theorem dX6_in_9 : decode cX6_in 9 = .ok (.lcmp, 1) := by decide +kernel
theorem dX6_in_10 : decode cX6_in 10 = .ok (.ifCond .gt 7, 3) := by decide +kernel
theorem dX6_in_13 : decode cX6_in 13 = .ok (.iconst 1, 1) := by decide +kernel
theorem dX6_in_14 : decode cX6_in 14 = .ok (.goto 4, 3) := by decide +kernel
theorem dX6_in_17 : decode cX6_in 17 = .ok (.iconst 0, 1) := by decide +kernel
theorem dX6_in_18 : decode cX6_in 18 = .ok (.ireturn, 1) := by decide +kernel
theorem dX6_init_0 : decode cX6_init 0 = .ok (.aload_n 0, 1) := by decide +kernel
theorem dX6_init_1 : decode cX6_init 1 = .ok (.invokespecial 1, 3) := by decide +kernel
theorem dX6_init_4 : decode cX6_init 4 = .ok (.aload_n 0, 1) := by decide +kernel
theorem dX6_init_5 : decode cX6_init 5 = .ok (.bipush 95, 2) := by decide +kernel
theorem dX6_init_7 : decode cX6_init 7 = .ok (.newarray .int, 2) := by decide +kernel
theorem dX6_init_9 : decode cX6_init 9 = .ok (.putfield 7, 3) := by decide +kernel
theorem dX6_init_12 : decode cX6_init 12 = .ok (.aload_n 0, 1) := by decide +kernel
theorem dX6_init_13 : decode cX6_init 13 = .ok (.bipush 100, 2) := by decide +kernel
theorem dX6_init_15 : decode cX6_init 15 = .ok (.newarray .int, 2) := by decide +kernel
theorem dX6_init_17 : decode cX6_init 17 = .ok (.putfield 13, 3) := by decide +kernel
theorem dX6_init_20 : decode cX6_init 20 = .ok (.aload_n 0, 1) := by decide +kernel
theorem dX6_init_21 : decode cX6_init 21 = .ok (.bipush 30, 2) := by decide +kernel
theorem dX6_init_23 : decode cX6_init 23 = .ok (.newarray .int, 2) := by decide +kernel
theorem dX6_init_25 : decode cX6_init 25 = .ok (.putfield 16, 3) := by decide +kernel
theorem dX6_init_28 : decode cX6_init 28 = .ok (.aload_n 0, 1) := by decide +kernel
theorem dX6_init_29 : decode cX6_init 29 = .ok (.sipush 648, 3) := by decide +kernel
theorem dX6_init_32 : decode cX6_init 32 = .ok (.newarray .int, 2) := by decide +kernel
theorem dX6_init_34 : decode cX6_init 34 = .ok (.putfield 19, 3) := by decide +kernel
theorem dX6_init_37 : decode cX6_init 37 = .ok (.aload_n 0, 1) := by decide +kernel
theorem dX6_init_38 : decode cX6_init 38 = .ok (.bipush 95, 2) := by decide +kernel
theorem dX6_init_40 : decode cX6_init 40 = .ok (.newarray .int, 2) := by decide +kernel
theorem dX6_init_42 : decode cX6_init 42 = .ok (.putfield 22, 3) := by decide +kernel
theorem dX6_init_45 : decode cX6_init 45 = .ok (.aload_n 0, 1) := by decide +kernel
theorem dX6_init_46 : decode cX6_init 46 = .ok (.sipush 743, 3) := by decide +kernel
theorem dX6_init_49 : decode cX6_init 49 = .ok (.newarray .int, 2) := by decide +kernel
theorem dX6_init_51 : decode cX6_init 51 = .ok (.putfield 25, 3) := by decide +kernel
theorem dX6_init_54 : decode cX6_init 54 = .ok (.aload_n 0, 1) := by decide +kernel
theorem dX6_init_55 : decode cX6_init 55 = .ok (.iconst 4, 1) := by decide +kernel
theorem dX6_init_56 : decode cX6_init 56 = .ok (.newarray .int, 2) := by decide +kernel
theorem dX6_init_58 : decode cX6_init 58 = .ok (.putfield 28, 3) := by decide +kernel
theorem dX6_init_61 : decode cX6_init 61 = .ok (.aload_n 0, 1) := by decide +kernel
theorem dX6_init_62 : decode cX6_init 62 = .ok (.iconst 4, 1) := by decide +kernel
theorem dX6_init_63 : decode cX6_init 63 = .ok (.newarray .int, 2) := by decide +kernel
theorem dX6_init_65 : decode cX6_init 65 = .ok (.putfield 31, 3) := by decide +kernel
theorem dX6_init_68 : decode cX6_init 68 = .ok (.aload_n 0, 1) := by decide +kernel
theorem dX6_init_69 : decode cX6_init 69 = .ok (.bipush 96, 2) := by decide +kernel
theorem dX6_init_71 : decode cX6_init 71 = .ok (.newarray .long, 2) := by decide +kernel
theorem dX6_init_73 : decode cX6_init 73 = .ok (.putfield 34, 3) := by decide +kernel
theorem dX6_init_76 : decode cX6_init 76 = .ok (.aload_n 0, 1) := by decide +kernel
theorem dX6_init_77 : decode cX6_init 77 = .ok (.bipush 24, 2) := by decide +kernel
theorem dX6_init_79 : decode cX6_init 79 = .ok (.newarray .long, 2) := by decide +kernel
theorem dX6_init_81 : decode cX6_init 81 = .ok (.putfield 38, 3) := by decide +kernel
theorem dX6_init_84 : decode cX6_init 84 = .ok (.aload_n 0, 1) := by decide +kernel
theorem dX6_init_85 : decode cX6_init 85 = .ok (.getfield 7, 3) := by decide +kernel
theorem dX6_init_88 : decode cX6_init 88 = .ok (.iconst 1, 1) := by decide +kernel
theorem dX6_init_89 : decode cX6_init 89 = .ok (.iconst 2, 1) := by decide +kernel
theorem dX6_init_90 : decode cX6_init 90 = .ok (.iastore, 1) := by decide +kernel
theorem dX6_init_91 : decode cX6_init 91 = .ok (.aload_n 0, 1) := by decide +kernel
theorem dX6_init_92 : decode cX6_init 92 = .ok (.getfield 7, 3) := by decide +kernel
theorem dX6_init_95 : decode cX6_init 95 = .ok (.iconst 4, 1) := by decide +kernel
theorem dX6_init_96 : decode cX6_init 96 = .ok (.iconst 1, 1) := by decide +kernel
theorem dX6_init_97 : decode cX6_init 97 = .ok (.iastore, 1) := by decide +kernel
theorem dX6_init_98 : decode cX6_init 98 = .ok (.iconst 0, 1) := by decide +kernel
theorem dX6_init_99 : decode cX6_init 99 = .ok (.istore_n 1, 1) := by decide +kernel
theorem dX6_init_100 : decode cX6_init 100 = .ok (.iload_n 1, 1) := by decide +kernel
theorem dX6_init_101 : decode cX6_init 101 = .ok (.iconst 4, 1) := by decide +kernel
theorem dX6_init_102 : decode cX6_init 102 = .ok (.if_icmp .ge 16, 3) := by decide +kernel
theorem dX6_init_105 : decode cX6_init 105 = .ok (.aload_n 0, 1) := by decide +kernel
theorem dX6_init_106 : decode cX6_init 106 = .ok (.getfield 28, 3) := by decide +kernel
theorem dX6_init_109 : decode cX6_init 109 = .ok (.iload_n 1, 1) := by decide +kernel
theorem dX6_init_110 : decode cX6_init 110 = .ok (.iconst (-1), 1) := by decide +kernel
theorem dX6_init_111 : decode cX6_init 111 = .ok (.iastore, 1) := by decide +kernel
theorem dX6_init_112 : decode cX6_init 112 = .ok (.iinc 1 1, 3) := by decide +kernel
theorem dX6_init_115 : decode cX6_init 115 = .ok (.goto (-15), 3) := by decide +kernel
theorem dX6_init_118 : decode cX6_init 118 = .ok (.return_, 1) := by decide +kernel
theorem dX6_isPerson_0 : decode cX6_isPerson 0 = .ok (.iload_n 1, 1) := by decide +kernel
theorem dX6_isPerson_1 : decode cX6_isPerson 1 = .ok (.i2l, 1) := by decide +kernel
theorem dX6_isPerson_2 : decode cX6_isPerson 2 = .ok (.lconst 0, 1) := by decide +kernel
theorem dX6_isPerson_3 : decode cX6_isPerson 3 = .ok (.aload_n 0, 1) := by decide +kernel
theorem dX6_isPerson_4 : decode cX6_isPerson 4 = .ok (.getfield 7, 3) := by decide +kernel
theorem dX6_isPerson_7 : decode cX6_isPerson 7 = .ok (.iconst 0, 1) := by decide +kernel
theorem dX6_isPerson_8 : decode cX6_isPerson 8 = .ok (.iaload, 1) := by decide +kernel
theorem dX6_isPerson_9 : decode cX6_isPerson 9 = .ok (.iconst 1, 1) := by decide +kernel
theorem dX6_isPerson_10 : decode cX6_isPerson 10 = .ok (.isub, 1) := by decide +kernel
theorem dX6_isPerson_11 : decode cX6_isPerson 11 = .ok (.i2l, 1) := by decide +kernel
theorem dX6_isPerson_12 : decode cX6_isPerson 12 = .ok (.invokestatic 41, 3) := by decide +kernel
theorem dX6_isPerson_15 : decode cX6_isPerson 15 = .ok (.ireturn, 1) := by decide +kernel
theorem dX6_isHalf_0 : decode cX6_isHalf 0 = .ok (.iload_n 0, 1) := by decide +kernel
theorem dX6_isHalf_1 : decode cX6_isHalf 1 = .ok (.i2l, 1) := by decide +kernel
theorem dX6_isHalf_2 : decode cX6_isHalf 2 = .ok (.lconst 0, 1) := by decide +kernel
theorem dX6_isHalf_3 : decode cX6_isHalf 3 = .ok (.ldc2_w 45, 3) := by decide +kernel
theorem dX6_isHalf_6 : decode cX6_isHalf 6 = .ok (.invokestatic 41, 3) := by decide +kernel
theorem dX6_isHalf_9 : decode cX6_isHalf 9 = .ok (.ireturn, 1) := by decide +kernel
theorem dX6_ofPerson_0 : decode cX6_ofPerson 0 = .ok (.aload_n 0, 1) := by decide +kernel
theorem dX6_ofPerson_1 : decode cX6_ofPerson 1 = .ok (.getfield 7, 3) := by decide +kernel
theorem dX6_ofPerson_4 : decode cX6_ofPerson 4 = .ok (.iconst 5, 1) := by decide +kernel
theorem dX6_ofPerson_5 : decode cX6_ofPerson 5 = .ok (.iconst 3, 1) := by decide +kernel
theorem dX6_ofPerson_6 : decode cX6_ofPerson 6 = .ok (.iload_n 1, 1) := by decide +kernel
theorem dX6_ofPerson_7 : decode cX6_ofPerson 7 = .ok (.imul, 1) := by decide +kernel
theorem dX6_ofPerson_8 : decode cX6_ofPerson 8 = .ok (.iadd, 1) := by decide +kernel
theorem dX6_ofPerson_9 : decode cX6_ofPerson 9 = .ok (.iload_n 2, 1) := by decide +kernel
theorem dX6_ofPerson_10 : decode cX6_ofPerson 10 = .ok (.iadd, 1) := by decide +kernel
theorem dX6_ofPerson_11 : decode cX6_ofPerson 11 = .ok (.iaload, 1) := by decide +kernel
theorem dX6_ofPerson_12 : decode cX6_ofPerson 12 = .ok (.ireturn, 1) := by decide +kernel
theorem dX6_manyOf_0 : decode cX6_manyOf 0 = .ok (.aload_n 0, 1) := by decide +kernel
theorem dX6_manyOf_1 : decode cX6_manyOf 1 = .ok (.getfield 7, 3) := by decide +kernel
theorem dX6_manyOf_4 : decode cX6_manyOf 4 = .ok (.bipush 23, 2) := by decide +kernel
theorem dX6_manyOf_6 : decode cX6_manyOf 6 = .ok (.bipush 12, 2) := by decide +kernel
theorem dX6_manyOf_8 : decode cX6_manyOf 8 = .ok (.iload_n 1, 1) := by decide +kernel
theorem dX6_manyOf_9 : decode cX6_manyOf 9 = .ok (.imul, 1) := by decide +kernel
theorem dX6_manyOf_10 : decode cX6_manyOf 10 = .ok (.iadd, 1) := by decide +kernel
theorem dX6_manyOf_11 : decode cX6_manyOf 11 = .ok (.iload_n 2, 1) := by decide +kernel
theorem dX6_manyOf_12 : decode cX6_manyOf 12 = .ok (.iadd, 1) := by decide +kernel
theorem dX6_manyOf_13 : decode cX6_manyOf 13 = .ok (.iaload, 1) := by decide +kernel
theorem dX6_manyOf_14 : decode cX6_manyOf 14 = .ok (.ireturn, 1) := by decide +kernel
theorem dX6_hasOne_0 : decode cX6_hasOne 0 = .ok (.aload_n 0, 1) := by decide +kernel
theorem dX6_hasOne_1 : decode cX6_hasOne 1 = .ok (.iload_n 1, 1) := by decide +kernel
theorem dX6_hasOne_2 : decode cX6_hasOne 2 = .ok (.iload_n 2, 1) := by decide +kernel
theorem dX6_hasOne_3 : decode cX6_hasOne 3 = .ok (.invokevirtual 47, 3) := by decide +kernel
theorem dX6_hasOne_6 : decode cX6_hasOne 6 = .ok (.ifCond .le 7, 3) := by decide +kernel
theorem dX6_hasOne_9 : decode cX6_hasOne 9 = .ok (.iconst 1, 1) := by decide +kernel
theorem dX6_hasOne_10 : decode cX6_hasOne 10 = .ok (.goto 4, 3) := by decide +kernel
theorem dX6_hasOne_13 : decode cX6_hasOne 13 = .ok (.iconst 0, 1) := by decide +kernel
theorem dX6_hasOne_14 : decode cX6_hasOne 14 = .ok (.ireturn, 1) := by decide +kernel
theorem dX6_gets_0 : decode cX6_gets 0 = .ok (.aload_n 0, 1) := by decide +kernel
theorem dX6_gets_1 : decode cX6_gets 1 = .ok (.getfield 7, 3) := by decide +kernel
theorem dX6_gets_4 : decode cX6_gets 4 = .ok (.bipush 23, 2) := by decide +kernel
theorem dX6_gets_6 : decode cX6_gets 6 = .ok (.bipush 12, 2) := by decide +kernel
theorem dX6_gets_8 : decode cX6_gets 8 = .ok (.iload_n 1, 1) := by decide +kernel
theorem dX6_gets_9 : decode cX6_gets 9 = .ok (.imul, 1) := by decide +kernel
theorem dX6_gets_10 : decode cX6_gets 10 = .ok (.iadd, 1) := by decide +kernel
theorem dX6_gets_11 : decode cX6_gets 11 = .ok (.iload_n 2, 1) := by decide +kernel
theorem dX6_gets_12 : decode cX6_gets 12 = .ok (.iadd, 1) := by decide +kernel
theorem dX6_gets_13 : decode cX6_gets 13 = .ok (.dup2, 1) := by decide +kernel
theorem dX6_gets_14 : decode cX6_gets 14 = .ok (.iaload, 1) := by decide +kernel
theorem dX6_gets_15 : decode cX6_gets 15 = .ok (.iload_n 3, 1) := by decide +kernel
theorem dX6_gets_16 : decode cX6_gets 16 = .ok (.iadd, 1) := by decide +kernel
theorem dX6_gets_17 : decode cX6_gets 17 = .ok (.iastore, 1) := by decide +kernel
theorem dX6_gets_18 : decode cX6_gets 18 = .ok (.return_, 1) := by decide +kernel
theorem dX6_pays_0 : decode cX6_pays 0 = .ok (.aload_n 0, 1) := by decide +kernel
theorem dX6_pays_1 : decode cX6_pays 1 = .ok (.getfield 7, 3) := by decide +kernel
theorem dX6_pays_4 : decode cX6_pays 4 = .ok (.iconst 5, 1) := by decide +kernel
theorem dX6_pays_5 : decode cX6_pays 5 = .ok (.iconst 3, 1) := by decide +kernel
theorem dX6_pays_6 : decode cX6_pays 6 = .ok (.iload_n 1, 1) := by decide +kernel
theorem dX6_pays_7 : decode cX6_pays 7 = .ok (.imul, 1) := by decide +kernel
theorem dX6_pays_8 : decode cX6_pays 8 = .ok (.iadd, 1) := by decide +kernel
theorem dX6_pays_9 : decode cX6_pays 9 = .ok (.iconst 2, 1) := by decide +kernel
theorem dX6_pays_10 : decode cX6_pays 10 = .ok (.iadd, 1) := by decide +kernel
theorem dX6_pays_11 : decode cX6_pays 11 = .ok (.dup2, 1) := by decide +kernel
theorem dX6_pays_12 : decode cX6_pays 12 = .ok (.iaload, 1) := by decide +kernel
theorem dX6_pays_13 : decode cX6_pays 13 = .ok (.iload_n 2, 1) := by decide +kernel
theorem dX6_pays_14 : decode cX6_pays 14 = .ok (.isub, 1) := by decide +kernel
theorem dX6_pays_15 : decode cX6_pays 15 = .ok (.iastore, 1) := by decide +kernel
theorem dX6_pays_16 : decode cX6_pays 16 = .ok (.return_, 1) := by decide +kernel
theorem dX6_worthIf_0 : decode cX6_worthIf 0 = .ok (.iload_n 2, 1) := by decide +kernel
theorem dX6_worthIf_1 : decode cX6_worthIf 1 = .ok (.iconst 2, 1) := by decide +kernel
theorem dX6_worthIf_2 : decode cX6_worthIf 2 = .ok (.idiv, 1) := by decide +kernel
theorem dX6_worthIf_3 : decode cX6_worthIf 3 = .ok (.istore_n 3, 1) := by decide +kernel
theorem dX6_worthIf_4 : decode cX6_worthIf 4 = .ok (.aload_n 0, 1) := by decide +kernel
theorem dX6_worthIf_5 : decode cX6_worthIf 5 = .ok (.getfield 7, 3) := by decide +kernel
theorem dX6_worthIf_8 : decode cX6_worthIf 8 = .ok (.iconst 2, 1) := by decide +kernel
theorem dX6_worthIf_9 : decode cX6_worthIf 9 = .ok (.iaload, 1) := by decide +kernel
theorem dX6_worthIf_10 : decode cX6_worthIf 10 = .ok (.iload_n 3, 1) := by decide +kernel
theorem dX6_worthIf_11 : decode cX6_worthIf 11 = .ok (.ishr, 1) := by decide +kernel
theorem dX6_worthIf_12 : decode cX6_worthIf 12 = .ok (.iconst 1, 1) := by decide +kernel
theorem dX6_worthIf_13 : decode cX6_worthIf 13 = .ok (.iand, 1) := by decide +kernel
theorem dX6_worthIf_14 : decode cX6_worthIf 14 = .ok (.iconst 1, 1) := by decide +kernel
theorem dX6_worthIf_15 : decode cX6_worthIf 15 = .ok (.if_icmp .ne 7, 3) := by decide +kernel
theorem dX6_worthIf_18 : decode cX6_worthIf 18 = .ok (.iconst 3, 1) := by decide +kernel
theorem dX6_worthIf_19 : decode cX6_worthIf 19 = .ok (.goto 5, 3) := by decide +kernel
theorem dX6_worthIf_22 : decode cX6_worthIf 22 = .ok (.bipush 6, 2) := by decide +kernel
theorem dX6_worthIf_24 : decode cX6_worthIf 24 = .ok (.istore 4, 2) := by decide +kernel
theorem dX6_worthIf_26 : decode cX6_worthIf 26 = .ok (.iload 4, 2) := by decide +kernel
theorem dX6_worthIf_28 : decode cX6_worthIf 28 = .ok (.aload_n 0, 1) := by decide +kernel
theorem dX6_worthIf_29 : decode cX6_worthIf 29 = .ok (.getfield 7, 3) := by decide +kernel
theorem dX6_worthIf_32 : decode cX6_worthIf 32 = .ok (.iconst 3, 1) := by decide +kernel
theorem dX6_worthIf_33 : decode cX6_worthIf 33 = .ok (.iaload, 1) := by decide +kernel
theorem dX6_worthIf_34 : decode cX6_worthIf 34 = .ok (.iload_n 3, 1) := by decide +kernel
theorem dX6_worthIf_35 : decode cX6_worthIf 35 = .ok (.ishr, 1) := by decide +kernel
theorem dX6_worthIf_36 : decode cX6_worthIf 36 = .ok (.iconst 1, 1) := by decide +kernel
theorem dX6_worthIf_37 : decode cX6_worthIf 37 = .ok (.iand, 1) := by decide +kernel
theorem dX6_worthIf_38 : decode cX6_worthIf 38 = .ok (.iconst 1, 1) := by decide +kernel
theorem dX6_worthIf_39 : decode cX6_worthIf 39 = .ok (.if_icmp .ne 8, 3) := by decide +kernel
theorem dX6_worthIf_42 : decode cX6_worthIf 42 = .ok (.bipush 9, 2) := by decide +kernel
theorem dX6_worthIf_44 : decode cX6_worthIf 44 = .ok (.goto 4, 3) := by decide +kernel
theorem dX6_worthIf_47 : decode cX6_worthIf 47 = .ok (.iconst 0, 1) := by decide +kernel
theorem dX6_worthIf_48 : decode cX6_worthIf 48 = .ok (.iadd, 1) := by decide +kernel
theorem dX6_worthIf_49 : decode cX6_worthIf 49 = .ok (.istore 5, 2) := by decide +kernel
theorem dX6_worthIf_51 : decode cX6_worthIf 51 = .ok (.iload 4, 2) := by decide +kernel
theorem dX6_worthIf_53 : decode cX6_worthIf 53 = .ok (.aload_n 0, 1) := by decide +kernel
theorem dX6_worthIf_54 : decode cX6_worthIf 54 = .ok (.iload_n 1, 1) := by decide +kernel
theorem dX6_worthIf_55 : decode cX6_worthIf 55 = .ok (.iload_n 2, 1) := by decide +kernel
theorem dX6_worthIf_56 : decode cX6_worthIf 56 = .ok (.iconst 1, 1) := by decide +kernel
theorem dX6_worthIf_57 : decode cX6_worthIf 57 = .ok (.ixor, 1) := by decide +kernel
theorem dX6_worthIf_58 : decode cX6_worthIf 58 = .ok (.invokevirtual 51, 3) := by decide +kernel
theorem dX6_worthIf_61 : decode cX6_worthIf 61 = .ok (.ifCond .eq 7, 3) := by decide +kernel
theorem dX6_worthIf_64 : decode cX6_worthIf 64 = .ok (.iconst 4, 1) := by decide +kernel
theorem dX6_worthIf_65 : decode cX6_worthIf 65 = .ok (.goto 4, 3) := by decide +kernel
theorem dX6_worthIf_68 : decode cX6_worthIf 68 = .ok (.iconst 0, 1) := by decide +kernel
theorem dX6_worthIf_69 : decode cX6_worthIf 69 = .ok (.iadd, 1) := by decide +kernel
theorem dX6_worthIf_70 : decode cX6_worthIf 70 = .ok (.istore 6, 2) := by decide +kernel
theorem dX6_worthIf_72 : decode cX6_worthIf 72 = .ok (.aload_n 0, 1) := by decide +kernel
theorem dX6_worthIf_73 : decode cX6_worthIf 73 = .ok (.iload_n 1, 1) := by decide +kernel
theorem dX6_worthIf_74 : decode cX6_worthIf 74 = .ok (.iconst 1, 1) := by decide +kernel
theorem dX6_worthIf_75 : decode cX6_worthIf 75 = .ok (.invokevirtual 55, 3) := by decide +kernel
theorem dX6_worthIf_78 : decode cX6_worthIf 78 = .ok (.istore 7, 2) := by decide +kernel
theorem dX6_worthIf_80 : decode cX6_worthIf 80 = .ok (.aload_n 0, 1) := by decide +kernel
theorem dX6_worthIf_81 : decode cX6_worthIf 81 = .ok (.iload_n 1, 1) := by decide +kernel
theorem dX6_worthIf_82 : decode cX6_worthIf 82 = .ok (.iconst 0, 1) := by decide +kernel
theorem dX6_worthIf_83 : decode cX6_worthIf 83 = .ok (.invokevirtual 55, 3) := by decide +kernel
theorem dX6_worthIf_86 : decode cX6_worthIf 86 = .ok (.tableswitch 64 0 3 #[30, 33, 36, 39], 30) := by decide +kernel
theorem dX6_worthIf_116 : decode cX6_worthIf 116 = .ok (.iload 4, 2) := by decide +kernel
theorem dX6_worthIf_118 : decode cX6_worthIf 118 = .ok (.ireturn, 1) := by decide +kernel
theorem dX6_worthIf_119 : decode cX6_worthIf 119 = .ok (.iload 5, 2) := by decide +kernel
theorem dX6_worthIf_121 : decode cX6_worthIf 121 = .ok (.ireturn, 1) := by decide +kernel
theorem dX6_worthIf_122 : decode cX6_worthIf 122 = .ok (.iload 6, 2) := by decide +kernel
theorem dX6_worthIf_124 : decode cX6_worthIf 124 = .ok (.ireturn, 1) := by decide +kernel
theorem dX6_worthIf_125 : decode cX6_worthIf 125 = .ok (.iload 5, 2) := by decide +kernel
theorem dX6_worthIf_127 : decode cX6_worthIf 127 = .ok (.iload 7, 2) := by decide +kernel
theorem dX6_worthIf_129 : decode cX6_worthIf 129 = .ok (.iload_n 1, 1) := by decide +kernel
theorem dX6_worthIf_130 : decode cX6_worthIf 130 = .ok (.if_icmp .eq 17, 3) := by decide +kernel
theorem dX6_worthIf_133 : decode cX6_worthIf 133 = .ok (.aload_n 0, 1) := by decide +kernel
theorem dX6_worthIf_134 : decode cX6_worthIf 134 = .ok (.iload 7, 2) := by decide +kernel
theorem dX6_worthIf_136 : decode cX6_worthIf 136 = .ok (.iload_n 2, 1) := by decide +kernel
theorem dX6_worthIf_137 : decode cX6_worthIf 137 = .ok (.invokevirtual 51, 3) := by decide +kernel
theorem dX6_worthIf_140 : decode cX6_worthIf 140 = .ok (.ifCond .eq 7, 3) := by decide +kernel
theorem dX6_worthIf_143 : decode cX6_worthIf 143 = .ok (.iconst 5, 1) := by decide +kernel
theorem dX6_worthIf_144 : decode cX6_worthIf 144 = .ok (.goto 4, 3) := by decide +kernel
theorem dX6_worthIf_147 : decode cX6_worthIf 147 = .ok (.iconst 0, 1) := by decide +kernel
theorem dX6_worthIf_148 : decode cX6_worthIf 148 = .ok (.iadd, 1) := by decide +kernel
theorem dX6_worthIf_149 : decode cX6_worthIf 149 = .ok (.ireturn, 1) := by decide +kernel
theorem dX6_worthIf_150 : decode cX6_worthIf 150 = .ok (.iload_n 2, 1) := by decide +kernel
theorem dX6_worthIf_151 : decode cX6_worthIf 151 = .ok (.iconst 2, 1) := by decide +kernel
theorem dX6_worthIf_152 : decode cX6_worthIf 152 = .ok (.irem, 1) := by decide +kernel
theorem dX6_worthIf_153 : decode cX6_worthIf 153 = .ok (.ifCond .ne 7, 3) := by decide +kernel
theorem dX6_worthIf_156 : decode cX6_worthIf 156 = .ok (.iconst 0, 1) := by decide +kernel
theorem dX6_worthIf_157 : decode cX6_worthIf 157 = .ok (.goto 5, 3) := by decide +kernel
theorem dX6_worthIf_160 : decode cX6_worthIf 160 = .ok (.iload 6, 2) := by decide +kernel
theorem dX6_worthIf_162 : decode cX6_worthIf 162 = .ok (.ireturn, 1) := by decide +kernel
theorem dX6_worthOf_0 : decode cX6_worthOf 0 = .ok (.aload_n 0, 1) := by decide +kernel
theorem dX6_worthOf_1 : decode cX6_worthOf 1 = .ok (.iload_n 1, 1) := by decide +kernel
theorem dX6_worthOf_2 : decode cX6_worthOf 2 = .ok (.iload_n 2, 1) := by decide +kernel
theorem dX6_worthOf_3 : decode cX6_worthOf 3 = .ok (.invokevirtual 51, 3) := by decide +kernel
theorem dX6_worthOf_6 : decode cX6_worthOf 6 = .ok (.ifCond .eq 12, 3) := by decide +kernel
theorem dX6_worthOf_9 : decode cX6_worthOf 9 = .ok (.aload_n 0, 1) := by decide +kernel
theorem dX6_worthOf_10 : decode cX6_worthOf 10 = .ok (.iload_n 1, 1) := by decide +kernel
theorem dX6_worthOf_11 : decode cX6_worthOf 11 = .ok (.iload_n 2, 1) := by decide +kernel
theorem dX6_worthOf_12 : decode cX6_worthOf 12 = .ok (.invokevirtual 58, 3) := by decide +kernel
theorem dX6_worthOf_15 : decode cX6_worthOf 15 = .ok (.goto 4, 3) := by decide +kernel
theorem dX6_worthOf_18 : decode cX6_worthOf 18 = .ok (.iconst 0, 1) := by decide +kernel
theorem dX6_worthOf_19 : decode cX6_worthOf 19 = .ok (.ireturn, 1) := by decide +kernel
theorem dX6_worth_0 : decode cX6_worth 0 = .ok (.iconst 0, 1) := by decide +kernel
theorem dX6_worth_1 : decode cX6_worth 1 = .ok (.istore_n 2, 1) := by decide +kernel
theorem dX6_worth_2 : decode cX6_worth 2 = .ok (.iconst 0, 1) := by decide +kernel
theorem dX6_worth_3 : decode cX6_worth 3 = .ok (.istore_n 3, 1) := by decide +kernel
theorem dX6_worth_4 : decode cX6_worth 4 = .ok (.iload_n 3, 1) := by decide +kernel
theorem dX6_worth_5 : decode cX6_worth 5 = .ok (.bipush 12, 2) := by decide +kernel
theorem dX6_worth_7 : decode cX6_worth 7 = .ok (.if_icmp .ge 18, 3) := by decide +kernel
theorem dX6_worth_10 : decode cX6_worth 10 = .ok (.iload_n 2, 1) := by decide +kernel
theorem dX6_worth_11 : decode cX6_worth 11 = .ok (.aload_n 0, 1) := by decide +kernel
theorem dX6_worth_12 : decode cX6_worth 12 = .ok (.iload_n 1, 1) := by decide +kernel
theorem dX6_worth_13 : decode cX6_worth 13 = .ok (.iload_n 3, 1) := by decide +kernel
theorem dX6_worth_14 : decode cX6_worth 14 = .ok (.invokevirtual 61, 3) := by decide +kernel
theorem dX6_worth_17 : decode cX6_worth 17 = .ok (.iadd, 1) := by decide +kernel
theorem dX6_worth_18 : decode cX6_worth 18 = .ok (.istore_n 2, 1) := by decide +kernel
theorem dX6_worth_19 : decode cX6_worth 19 = .ok (.iinc 3 1, 3) := by decide +kernel
theorem dX6_worth_22 : decode cX6_worth 22 = .ok (.goto (-18), 3) := by decide +kernel
theorem dX6_worth_25 : decode cX6_worth 25 = .ok (.iload_n 2, 1) := by decide +kernel
theorem dX6_worth_26 : decode cX6_worth 26 = .ok (.ireturn, 1) := by decide +kernel
theorem dX6_worthAll_0 : decode cX6_worthAll 0 = .ok (.iconst 0, 1) := by decide +kernel
theorem dX6_worthAll_1 : decode cX6_worthAll 1 = .ok (.istore_n 1, 1) := by decide +kernel
theorem dX6_worthAll_2 : decode cX6_worthAll 2 = .ok (.iconst 0, 1) := by decide +kernel
theorem dX6_worthAll_3 : decode cX6_worthAll 3 = .ok (.istore_n 2, 1) := by decide +kernel
theorem dX6_worthAll_4 : decode cX6_worthAll 4 = .ok (.iload_n 2, 1) := by decide +kernel
theorem dX6_worthAll_5 : decode cX6_worthAll 5 = .ok (.aload_n 0, 1) := by decide +kernel
theorem dX6_worthAll_6 : decode cX6_worthAll 6 = .ok (.getfield 7, 3) := by decide +kernel
theorem dX6_worthAll_9 : decode cX6_worthAll 9 = .ok (.iconst 0, 1) := by decide +kernel
theorem dX6_worthAll_10 : decode cX6_worthAll 10 = .ok (.iaload, 1) := by decide +kernel
theorem dX6_worthAll_11 : decode cX6_worthAll 11 = .ok (.if_icmp .ge 17, 3) := by decide +kernel
theorem dX6_worthAll_14 : decode cX6_worthAll 14 = .ok (.iload_n 1, 1) := by decide +kernel
theorem dX6_worthAll_15 : decode cX6_worthAll 15 = .ok (.aload_n 0, 1) := by decide +kernel
theorem dX6_worthAll_16 : decode cX6_worthAll 16 = .ok (.iload_n 2, 1) := by decide +kernel
theorem dX6_worthAll_17 : decode cX6_worthAll 17 = .ok (.invokevirtual 64, 3) := by decide +kernel
theorem dX6_worthAll_20 : decode cX6_worthAll 20 = .ok (.iadd, 1) := by decide +kernel
theorem dX6_worthAll_21 : decode cX6_worthAll 21 = .ok (.istore_n 1, 1) := by decide +kernel
theorem dX6_worthAll_22 : decode cX6_worthAll 22 = .ok (.iinc 2 1, 3) := by decide +kernel
theorem dX6_worthAll_25 : decode cX6_worthAll 25 = .ok (.goto (-21), 3) := by decide +kernel
theorem dX6_worthAll_28 : decode cX6_worthAll 28 = .ok (.iload_n 1, 1) := by decide +kernel
theorem dX6_worthAll_29 : decode cX6_worthAll 29 = .ok (.ireturn, 1) := by decide +kernel
theorem dX6_halves_0 : decode cX6_halves 0 = .ok (.iconst 0, 1) := by decide +kernel
theorem dX6_halves_1 : decode cX6_halves 1 = .ok (.istore_n 2, 1) := by decide +kernel
theorem dX6_halves_2 : decode cX6_halves 2 = .ok (.iconst 0, 1) := by decide +kernel
theorem dX6_halves_3 : decode cX6_halves 3 = .ok (.istore_n 3, 1) := by decide +kernel
theorem dX6_halves_4 : decode cX6_halves 4 = .ok (.iload_n 3, 1) := by decide +kernel
theorem dX6_halves_5 : decode cX6_halves 5 = .ok (.bipush 12, 2) := by decide +kernel
theorem dX6_halves_7 : decode cX6_halves 7 = .ok (.if_icmp .ge 28, 3) := by decide +kernel
theorem dX6_halves_10 : decode cX6_halves 10 = .ok (.iload_n 2, 1) := by decide +kernel
theorem dX6_halves_11 : decode cX6_halves 11 = .ok (.aload_n 0, 1) := by decide +kernel
theorem dX6_halves_12 : decode cX6_halves 12 = .ok (.iload_n 1, 1) := by decide +kernel
theorem dX6_halves_13 : decode cX6_halves 13 = .ok (.iload_n 3, 1) := by decide +kernel
theorem dX6_halves_14 : decode cX6_halves 14 = .ok (.invokevirtual 51, 3) := by decide +kernel
theorem dX6_halves_17 : decode cX6_halves 17 = .ok (.ifCond .eq 9, 3) := by decide +kernel
theorem dX6_halves_20 : decode cX6_halves 20 = .ok (.iconst 1, 1) := by decide +kernel
theorem dX6_halves_21 : decode cX6_halves 21 = .ok (.iload_n 3, 1) := by decide +kernel
theorem dX6_halves_22 : decode cX6_halves 22 = .ok (.ishl, 1) := by decide +kernel
theorem dX6_halves_23 : decode cX6_halves 23 = .ok (.goto 4, 3) := by decide +kernel
theorem dX6_halves_26 : decode cX6_halves 26 = .ok (.iconst 0, 1) := by decide +kernel
theorem dX6_halves_27 : decode cX6_halves 27 = .ok (.ior, 1) := by decide +kernel
theorem dX6_halves_28 : decode cX6_halves 28 = .ok (.istore_n 2, 1) := by decide +kernel
theorem dX6_halves_29 : decode cX6_halves 29 = .ok (.iinc 3 1, 3) := by decide +kernel
theorem dX6_halves_32 : decode cX6_halves 32 = .ok (.goto (-28), 3) := by decide +kernel
theorem dX6_halves_35 : decode cX6_halves 35 = .ok (.iload_n 2, 1) := by decide +kernel
theorem dX6_halves_36 : decode cX6_halves 36 = .ok (.ireturn, 1) := by decide +kernel
theorem dX6_manyAll_0 : decode cX6_manyAll 0 = .ok (.iconst 0, 1) := by decide +kernel
theorem dX6_manyAll_1 : decode cX6_manyAll 1 = .ok (.istore_n 2, 1) := by decide +kernel
theorem dX6_manyAll_2 : decode cX6_manyAll 2 = .ok (.iconst 0, 1) := by decide +kernel
theorem dX6_manyAll_3 : decode cX6_manyAll 3 = .ok (.istore_n 3, 1) := by decide +kernel
theorem dX6_manyAll_4 : decode cX6_manyAll 4 = .ok (.iload_n 3, 1) := by decide +kernel
theorem dX6_manyAll_5 : decode cX6_manyAll 5 = .ok (.bipush 12, 2) := by decide +kernel
theorem dX6_manyAll_7 : decode cX6_manyAll 7 = .ok (.if_icmp .ge 18, 3) := by decide +kernel
theorem dX6_manyAll_10 : decode cX6_manyAll 10 = .ok (.iload_n 2, 1) := by decide +kernel
theorem dX6_manyAll_11 : decode cX6_manyAll 11 = .ok (.aload_n 0, 1) := by decide +kernel
theorem dX6_manyAll_12 : decode cX6_manyAll 12 = .ok (.iload_n 1, 1) := by decide +kernel
theorem dX6_manyAll_13 : decode cX6_manyAll 13 = .ok (.iload_n 3, 1) := by decide +kernel
theorem dX6_manyAll_14 : decode cX6_manyAll 14 = .ok (.invokevirtual 47, 3) := by decide +kernel
theorem dX6_manyAll_17 : decode cX6_manyAll 17 = .ok (.iadd, 1) := by decide +kernel
theorem dX6_manyAll_18 : decode cX6_manyAll 18 = .ok (.istore_n 2, 1) := by decide +kernel
theorem dX6_manyAll_19 : decode cX6_manyAll 19 = .ok (.iinc 3 1, 3) := by decide +kernel
theorem dX6_manyAll_22 : decode cX6_manyAll 22 = .ok (.goto (-18), 3) := by decide +kernel
theorem dX6_manyAll_25 : decode cX6_manyAll 25 = .ok (.iload_n 2, 1) := by decide +kernel
theorem dX6_manyAll_26 : decode cX6_manyAll 26 = .ok (.ireturn, 1) := by decide +kernel
theorem dX6_many_0 : decode cX6_many 0 = .ok (.iconst 0, 1) := by decide +kernel
theorem dX6_many_1 : decode cX6_many 1 = .ok (.istore_n 1, 1) := by decide +kernel
theorem dX6_many_2 : decode cX6_many 2 = .ok (.iload_n 0, 1) := by decide +kernel
theorem dX6_many_3 : decode cX6_many 3 = .ok (.istore_n 2, 1) := by decide +kernel
theorem dX6_many_4 : decode cX6_many 4 = .ok (.iload_n 2, 1) := by decide +kernel
theorem dX6_many_5 : decode cX6_many 5 = .ok (.ifCond .eq 15, 3) := by decide +kernel
theorem dX6_many_8 : decode cX6_many 8 = .ok (.iinc 1 1, 3) := by decide +kernel
theorem dX6_many_11 : decode cX6_many 11 = .ok (.iload_n 2, 1) := by decide +kernel
theorem dX6_many_12 : decode cX6_many 12 = .ok (.iload_n 2, 1) := by decide +kernel
theorem dX6_many_13 : decode cX6_many 13 = .ok (.iconst 1, 1) := by decide +kernel
theorem dX6_many_14 : decode cX6_many 14 = .ok (.isub, 1) := by decide +kernel
theorem dX6_many_15 : decode cX6_many 15 = .ok (.iand, 1) := by decide +kernel
theorem dX6_many_16 : decode cX6_many 16 = .ok (.istore_n 2, 1) := by decide +kernel
theorem dX6_many_17 : decode cX6_many 17 = .ok (.goto (-13), 3) := by decide +kernel
theorem dX6_many_20 : decode cX6_many 20 = .ok (.iload_n 1, 1) := by decide +kernel
theorem dX6_many_21 : decode cX6_many 21 = .ok (.ireturn, 1) := by decide +kernel
theorem dX6_personComes_0 : decode cX6_personComes 0 = .ok (.iconst 5, 1) := by decide +kernel
theorem dX6_personComes_1 : decode cX6_personComes 1 = .ok (.iconst 3, 1) := by decide +kernel
theorem dX6_personComes_2 : decode cX6_personComes 2 = .ok (.aload_n 0, 1) := by decide +kernel
theorem dX6_personComes_3 : decode cX6_personComes 3 = .ok (.getfield 7, 3) := by decide +kernel
theorem dX6_personComes_6 : decode cX6_personComes 6 = .ok (.iconst 0, 1) := by decide +kernel
theorem dX6_personComes_7 : decode cX6_personComes 7 = .ok (.iaload, 1) := by decide +kernel
theorem dX6_personComes_8 : decode cX6_personComes 8 = .ok (.imul, 1) := by decide +kernel
theorem dX6_personComes_9 : decode cX6_personComes 9 = .ok (.iadd, 1) := by decide +kernel
theorem dX6_personComes_10 : decode cX6_personComes 10 = .ok (.istore 4, 2) := by decide +kernel
theorem dX6_personComes_12 : decode cX6_personComes 12 = .ok (.aload_n 0, 1) := by decide +kernel
theorem dX6_personComes_13 : decode cX6_personComes 13 = .ok (.getfield 7, 3) := by decide +kernel
theorem dX6_personComes_16 : decode cX6_personComes 16 = .ok (.iload 4, 2) := by decide +kernel
theorem dX6_personComes_18 : decode cX6_personComes 18 = .ok (.iload_n 1, 1) := by decide +kernel
theorem dX6_personComes_19 : decode cX6_personComes 19 = .ok (.iastore, 1) := by decide +kernel
theorem dX6_personComes_20 : decode cX6_personComes 20 = .ok (.aload_n 0, 1) := by decide +kernel
theorem dX6_personComes_21 : decode cX6_personComes 21 = .ok (.getfield 7, 3) := by decide +kernel
theorem dX6_personComes_24 : decode cX6_personComes 24 = .ok (.iload 4, 2) := by decide +kernel
theorem dX6_personComes_26 : decode cX6_personComes 26 = .ok (.iconst 1, 1) := by decide +kernel
theorem dX6_personComes_27 : decode cX6_personComes 27 = .ok (.iadd, 1) := by decide +kernel
theorem dX6_personComes_28 : decode cX6_personComes 28 = .ok (.iload_n 2, 1) := by decide +kernel
theorem dX6_personComes_29 : decode cX6_personComes 29 = .ok (.iastore, 1) := by decide +kernel
theorem dX6_personComes_30 : decode cX6_personComes 30 = .ok (.aload_n 0, 1) := by decide +kernel
theorem dX6_personComes_31 : decode cX6_personComes 31 = .ok (.getfield 7, 3) := by decide +kernel
theorem dX6_personComes_34 : decode cX6_personComes 34 = .ok (.iload 4, 2) := by decide +kernel
theorem dX6_personComes_36 : decode cX6_personComes 36 = .ok (.iconst 2, 1) := by decide +kernel
theorem dX6_personComes_37 : decode cX6_personComes 37 = .ok (.iadd, 1) := by decide +kernel
theorem dX6_personComes_38 : decode cX6_personComes 38 = .ok (.iload_n 3, 1) := by decide +kernel
theorem dX6_personComes_39 : decode cX6_personComes 39 = .ok (.iastore, 1) := by decide +kernel
theorem dX6_personComes_40 : decode cX6_personComes 40 = .ok (.iconst 0, 1) := by decide +kernel
theorem dX6_personComes_41 : decode cX6_personComes 41 = .ok (.istore 5, 2) := by decide +kernel
theorem dX6_personComes_43 : decode cX6_personComes 43 = .ok (.iload 5, 2) := by decide +kernel
theorem dX6_personComes_45 : decode cX6_personComes 45 = .ok (.bipush 12, 2) := by decide +kernel
theorem dX6_personComes_47 : decode cX6_personComes 47 = .ok (.if_icmp .ge 30, 3) := by decide +kernel
theorem dX6_personComes_50 : decode cX6_personComes 50 = .ok (.aload_n 0, 1) := by decide +kernel
theorem dX6_personComes_51 : decode cX6_personComes 51 = .ok (.getfield 7, 3) := by decide +kernel
theorem dX6_personComes_54 : decode cX6_personComes 54 = .ok (.bipush 23, 2) := by decide +kernel
theorem dX6_personComes_56 : decode cX6_personComes 56 = .ok (.bipush 12, 2) := by decide +kernel
theorem dX6_personComes_58 : decode cX6_personComes 58 = .ok (.aload_n 0, 1) := by decide +kernel
theorem dX6_personComes_59 : decode cX6_personComes 59 = .ok (.getfield 7, 3) := by decide +kernel
theorem dX6_personComes_62 : decode cX6_personComes 62 = .ok (.iconst 0, 1) := by decide +kernel
theorem dX6_personComes_63 : decode cX6_personComes 63 = .ok (.iaload, 1) := by decide +kernel
theorem dX6_personComes_64 : decode cX6_personComes 64 = .ok (.imul, 1) := by decide +kernel
theorem dX6_personComes_65 : decode cX6_personComes 65 = .ok (.iadd, 1) := by decide +kernel
theorem dX6_personComes_66 : decode cX6_personComes 66 = .ok (.iload 5, 2) := by decide +kernel
theorem dX6_personComes_68 : decode cX6_personComes 68 = .ok (.iadd, 1) := by decide +kernel
theorem dX6_personComes_69 : decode cX6_personComes 69 = .ok (.iconst 1, 1) := by decide +kernel
theorem dX6_personComes_70 : decode cX6_personComes 70 = .ok (.iastore, 1) := by decide +kernel
theorem dX6_personComes_71 : decode cX6_personComes 71 = .ok (.iinc 5 1, 3) := by decide +kernel
theorem dX6_personComes_74 : decode cX6_personComes 74 = .ok (.goto (-31), 3) := by decide +kernel
theorem dX6_personComes_77 : decode cX6_personComes 77 = .ok (.aload_n 0, 1) := by decide +kernel
theorem dX6_personComes_78 : decode cX6_personComes 78 = .ok (.getfield 7, 3) := by decide +kernel
theorem dX6_personComes_81 : decode cX6_personComes 81 = .ok (.iconst 0, 1) := by decide +kernel
theorem dX6_personComes_82 : decode cX6_personComes 82 = .ok (.dup2, 1) := by decide +kernel
theorem dX6_personComes_83 : decode cX6_personComes 83 = .ok (.iaload, 1) := by decide +kernel
theorem dX6_personComes_84 : decode cX6_personComes 84 = .ok (.iconst 1, 1) := by decide +kernel
theorem dX6_personComes_85 : decode cX6_personComes 85 = .ok (.iadd, 1) := by decide +kernel
theorem dX6_personComes_86 : decode cX6_personComes 86 = .ok (.iastore, 1) := by decide +kernel
theorem dX6_personComes_87 : decode cX6_personComes 87 = .ok (.aload_n 0, 1) := by decide +kernel
theorem dX6_personComes_88 : decode cX6_personComes 88 = .ok (.iconst 0, 1) := by decide +kernel
theorem dX6_personComes_89 : decode cX6_personComes 89 = .ok (.putfield 68, 3) := by decide +kernel
theorem dX6_personComes_92 : decode cX6_personComes 92 = .ok (.return_, 1) := by decide +kernel
theorem dX6_person_0 : decode cX6_person 0 = .ok (.iload_n 1, 1) := by decide +kernel
theorem dX6_person_1 : decode cX6_person 1 = .ok (.i2l, 1) := by decide +kernel
theorem dX6_person_2 : decode cX6_person 2 = .ok (.lconst 0, 1) := by decide +kernel
theorem dX6_person_3 : decode cX6_person 3 = .ok (.ldc2_w 72, 3) := by decide +kernel
theorem dX6_person_6 : decode cX6_person 6 = .ok (.invokestatic 41, 3) := by decide +kernel
theorem dX6_person_9 : decode cX6_person 9 = .ok (.ifCond .ne 5, 3) := by decide +kernel
theorem dX6_person_12 : decode cX6_person 12 = .ok (.iconst (-1), 1) := by decide +kernel
theorem dX6_person_13 : decode cX6_person 13 = .ok (.ireturn, 1) := by decide +kernel
theorem dX6_person_14 : decode cX6_person 14 = .ok (.aload_n 0, 1) := by decide +kernel
theorem dX6_person_15 : decode cX6_person 15 = .ok (.getfield 7, 3) := by decide +kernel
theorem dX6_person_18 : decode cX6_person 18 = .ok (.iconst 0, 1) := by decide +kernel
theorem dX6_person_19 : decode cX6_person 19 = .ok (.iaload, 1) := by decide +kernel
theorem dX6_person_20 : decode cX6_person 20 = .ok (.bipush 6, 2) := by decide +kernel
theorem dX6_person_22 : decode cX6_person 22 = .ok (.if_icmp .ne 6, 3) := by decide +kernel
theorem dX6_person_25 : decode cX6_person 25 = .ok (.bipush (-3), 2) := by decide +kernel
theorem dX6_person_27 : decode cX6_person 27 = .ok (.ireturn, 1) := by decide +kernel
theorem dX6_person_28 : decode cX6_person 28 = .ok (.aload_n 0, 1) := by decide +kernel
theorem dX6_person_29 : decode cX6_person 29 = .ok (.iload_n 1, 1) := by decide +kernel
theorem dX6_person_30 : decode cX6_person 30 = .ok (.aload_n 0, 1) := by decide +kernel
theorem dX6_person_31 : decode cX6_person 31 = .ok (.getfield 7, 3) := by decide +kernel
theorem dX6_person_34 : decode cX6_person 34 = .ok (.iconst 0, 1) := by decide +kernel
theorem dX6_person_35 : decode cX6_person 35 = .ok (.iaload, 1) := by decide +kernel
theorem dX6_person_36 : decode cX6_person 36 = .ok (.bipush 50, 2) := by decide +kernel
theorem dX6_person_38 : decode cX6_person 38 = .ok (.invokevirtual 74, 3) := by decide +kernel
theorem dX6_person_41 : decode cX6_person 41 = .ok (.aload_n 0, 1) := by decide +kernel
theorem dX6_person_42 : decode cX6_person 42 = .ok (.getfield 7, 3) := by decide +kernel
theorem dX6_person_45 : decode cX6_person 45 = .ok (.iconst 0, 1) := by decide +kernel
theorem dX6_person_46 : decode cX6_person 46 = .ok (.iaload, 1) := by decide +kernel
theorem dX6_person_47 : decode cX6_person 47 = .ok (.iconst 1, 1) := by decide +kernel
theorem dX6_person_48 : decode cX6_person 48 = .ok (.isub, 1) := by decide +kernel
theorem dX6_person_49 : decode cX6_person 49 = .ok (.ireturn, 1) := by decide +kernel
theorem dX6_love_0 : decode cX6_love 0 = .ok (.aload_n 0, 1) := by decide +kernel
theorem dX6_love_1 : decode cX6_love 1 = .ok (.iload_n 1, 1) := by decide +kernel
theorem dX6_love_2 : decode cX6_love 2 = .ok (.invokevirtual 78, 3) := by decide +kernel
theorem dX6_love_5 : decode cX6_love 5 = .ok (.ifCond .eq 11, 3) := by decide +kernel
theorem dX6_love_8 : decode cX6_love 8 = .ok (.aload_n 0, 1) := by decide +kernel
theorem dX6_love_9 : decode cX6_love 9 = .ok (.iload_n 2, 1) := by decide +kernel
theorem dX6_love_10 : decode cX6_love 10 = .ok (.invokevirtual 78, 3) := by decide +kernel
theorem dX6_love_13 : decode cX6_love 13 = .ok (.ifCond .ne 5, 3) := by decide +kernel
theorem dX6_love_16 : decode cX6_love 16 = .ok (.iconst (-1), 1) := by decide +kernel
theorem dX6_love_17 : decode cX6_love 17 = .ok (.ireturn, 1) := by decide +kernel
theorem dX6_love_18 : decode cX6_love 18 = .ok (.aload_n 0, 1) := by decide +kernel
theorem dX6_love_19 : decode cX6_love 19 = .ok (.iload_n 1, 1) := by decide +kernel
theorem dX6_love_20 : decode cX6_love 20 = .ok (.iconst 1, 1) := by decide +kernel
theorem dX6_love_21 : decode cX6_love 21 = .ok (.invokevirtual 55, 3) := by decide +kernel
theorem dX6_love_24 : decode cX6_love 24 = .ok (.istore_n 3, 1) := by decide +kernel
theorem dX6_love_25 : decode cX6_love 25 = .ok (.aload_n 0, 1) := by decide +kernel
theorem dX6_love_26 : decode cX6_love 26 = .ok (.getfield 7, 3) := by decide +kernel
theorem dX6_love_29 : decode cX6_love 29 = .ok (.iconst 5, 1) := by decide +kernel
theorem dX6_love_30 : decode cX6_love 30 = .ok (.iconst 3, 1) := by decide +kernel
theorem dX6_love_31 : decode cX6_love 31 = .ok (.iload_n 1, 1) := by decide +kernel
theorem dX6_love_32 : decode cX6_love 32 = .ok (.imul, 1) := by decide +kernel
theorem dX6_love_33 : decode cX6_love 33 = .ok (.iadd, 1) := by decide +kernel
theorem dX6_love_34 : decode cX6_love 34 = .ok (.iconst 1, 1) := by decide +kernel
theorem dX6_love_35 : decode cX6_love 35 = .ok (.iadd, 1) := by decide +kernel
theorem dX6_love_36 : decode cX6_love 36 = .ok (.iload_n 2, 1) := by decide +kernel
theorem dX6_love_37 : decode cX6_love 37 = .ok (.iastore, 1) := by decide +kernel
theorem dX6_love_38 : decode cX6_love 38 = .ok (.iload_n 3, 1) := by decide +kernel
theorem dX6_love_39 : decode cX6_love 39 = .ok (.ireturn, 1) := by decide +kernel
theorem dX6_least_0 : decode cX6_least 0 = .ok (.iload_n 1, 1) := by decide +kernel
theorem dX6_least_1 : decode cX6_least 1 = .ok (.i2l, 1) := by decide +kernel
theorem dX6_least_2 : decode cX6_least 2 = .ok (.lconst 0, 1) := by decide +kernel
theorem dX6_least_3 : decode cX6_least 3 = .ok (.ldc2_w 82, 3) := by decide +kernel
theorem dX6_least_6 : decode cX6_least 6 = .ok (.invokestatic 41, 3) := by decide +kernel
theorem dX6_least_9 : decode cX6_least 9 = .ok (.ifCond .ne 5, 3) := by decide +kernel
theorem dX6_least_12 : decode cX6_least 12 = .ok (.iconst (-1), 1) := by decide +kernel
theorem dX6_least_13 : decode cX6_least 13 = .ok (.ireturn, 1) := by decide +kernel
theorem dX6_least_14 : decode cX6_least 14 = .ok (.aload_n 0, 1) := by decide +kernel
theorem dX6_least_15 : decode cX6_least 15 = .ok (.getfield 7, 3) := by decide +kernel
theorem dX6_least_18 : decode cX6_least 18 = .ok (.iconst 1, 1) := by decide +kernel
theorem dX6_least_19 : decode cX6_least 19 = .ok (.iaload, 1) := by decide +kernel
theorem dX6_least_20 : decode cX6_least 20 = .ok (.istore_n 2, 1) := by decide +kernel
theorem dX6_least_21 : decode cX6_least 21 = .ok (.aload_n 0, 1) := by decide +kernel
theorem dX6_least_22 : decode cX6_least 22 = .ok (.getfield 7, 3) := by decide +kernel
theorem dX6_least_25 : decode cX6_least 25 = .ok (.iconst 1, 1) := by decide +kernel
theorem dX6_least_26 : decode cX6_least 26 = .ok (.iload_n 1, 1) := by decide +kernel
theorem dX6_least_27 : decode cX6_least 27 = .ok (.iastore, 1) := by decide +kernel
theorem dX6_least_28 : decode cX6_least 28 = .ok (.iload_n 2, 1) := by decide +kernel
theorem dX6_least_29 : decode cX6_least 29 = .ok (.ireturn, 1) := by decide +kernel
theorem dX6_of_0 : decode cX6_of 0 = .ok (.aload_n 0, 1) := by decide +kernel
theorem dX6_of_1 : decode cX6_of 1 = .ok (.iload_n 1, 1) := by decide +kernel
theorem dX6_of_2 : decode cX6_of 2 = .ok (.invokevirtual 78, 3) := by decide +kernel
theorem dX6_of_5 : decode cX6_of 5 = .ok (.ifCond .eq 15, 3) := by decide +kernel
theorem dX6_of_8 : decode cX6_of 8 = .ok (.iload_n 2, 1) := by decide +kernel
theorem dX6_of_9 : decode cX6_of 9 = .ok (.i2l, 1) := by decide +kernel
theorem dX6_of_10 : decode cX6_of 10 = .ok (.lconst 0, 1) := by decide +kernel
theorem dX6_of_11 : decode cX6_of 11 = .ok (.ldc2_w 84, 3) := by decide +kernel
theorem dX6_of_14 : decode cX6_of 14 = .ok (.invokestatic 41, 3) := by decide +kernel
theorem dX6_of_17 : decode cX6_of 17 = .ok (.ifCond .ne 5, 3) := by decide +kernel
theorem dX6_of_20 : decode cX6_of 20 = .ok (.iconst (-1), 1) := by decide +kernel
theorem dX6_of_21 : decode cX6_of 21 = .ok (.ireturn, 1) := by decide +kernel
theorem dX6_of_22 : decode cX6_of 22 = .ok (.iload_n 2, 1) := by decide +kernel
theorem dX6_of_23 : decode cX6_of 23 = .ok (.iconst 3, 1) := by decide +kernel
theorem dX6_of_24 : decode cX6_of 24 = .ok (.if_icmp .ge 12, 3) := by decide +kernel
theorem dX6_of_27 : decode cX6_of 27 = .ok (.aload_n 0, 1) := by decide +kernel
theorem dX6_of_28 : decode cX6_of 28 = .ok (.iload_n 1, 1) := by decide +kernel
theorem dX6_of_29 : decode cX6_of 29 = .ok (.iload_n 2, 1) := by decide +kernel
theorem dX6_of_30 : decode cX6_of 30 = .ok (.invokevirtual 55, 3) := by decide +kernel
theorem dX6_of_33 : decode cX6_of 33 = .ok (.goto 34, 3) := by decide +kernel
theorem dX6_of_36 : decode cX6_of 36 = .ok (.iload_n 2, 1) := by decide +kernel
theorem dX6_of_37 : decode cX6_of 37 = .ok (.iconst 3, 1) := by decide +kernel
theorem dX6_of_38 : decode cX6_of 38 = .ok (.if_icmp .ne 11, 3) := by decide +kernel
theorem dX6_of_41 : decode cX6_of 41 = .ok (.aload_n 0, 1) := by decide +kernel
theorem dX6_of_42 : decode cX6_of 42 = .ok (.iload_n 1, 1) := by decide +kernel
theorem dX6_of_43 : decode cX6_of 43 = .ok (.invokevirtual 86, 3) := by decide +kernel
theorem dX6_of_46 : decode cX6_of 46 = .ok (.goto 21, 3) := by decide +kernel
theorem dX6_of_49 : decode cX6_of 49 = .ok (.iload_n 2, 1) := by decide +kernel
theorem dX6_of_50 : decode cX6_of 50 = .ok (.iconst 4, 1) := by decide +kernel
theorem dX6_of_51 : decode cX6_of 51 = .ok (.if_icmp .ne 11, 3) := by decide +kernel
theorem dX6_of_54 : decode cX6_of 54 = .ok (.aload_n 0, 1) := by decide +kernel
theorem dX6_of_55 : decode cX6_of 55 = .ok (.iload_n 1, 1) := by decide +kernel
theorem dX6_of_56 : decode cX6_of 56 = .ok (.invokevirtual 89, 3) := by decide +kernel
theorem dX6_of_59 : decode cX6_of 59 = .ok (.goto 8, 3) := by decide +kernel
theorem dX6_of_62 : decode cX6_of 62 = .ok (.aload_n 0, 1) := by decide +kernel
theorem dX6_of_63 : decode cX6_of 63 = .ok (.iload_n 1, 1) := by decide +kernel
theorem dX6_of_64 : decode cX6_of 64 = .ok (.invokevirtual 64, 3) := by decide +kernel
theorem dX6_of_67 : decode cX6_of 67 = .ok (.ireturn, 1) := by decide +kernel
theorem dX6_has_0 : decode cX6_has 0 = .ok (.aload_n 0, 1) := by decide +kernel
theorem dX6_has_1 : decode cX6_has 1 = .ok (.iload_n 1, 1) := by decide +kernel
theorem dX6_has_2 : decode cX6_has 2 = .ok (.invokevirtual 78, 3) := by decide +kernel
theorem dX6_has_5 : decode cX6_has 5 = .ok (.ifCond .eq 20, 3) := by decide +kernel
theorem dX6_has_8 : decode cX6_has 8 = .ok (.iload_n 2, 1) := by decide +kernel
theorem dX6_has_9 : decode cX6_has 9 = .ok (.invokestatic 92, 3) := by decide +kernel
theorem dX6_has_12 : decode cX6_has 12 = .ok (.ifCond .eq 13, 3) := by decide +kernel
theorem dX6_has_15 : decode cX6_has 15 = .ok (.iload_n 3, 1) := by decide +kernel
theorem dX6_has_16 : decode cX6_has 16 = .ok (.i2l, 1) := by decide +kernel
theorem dX6_has_17 : decode cX6_has 17 = .ok (.lconst 0, 1) := by decide +kernel
theorem dX6_has_18 : decode cX6_has 18 = .ok (.lconst 1, 1) := by decide +kernel
theorem dX6_has_19 : decode cX6_has 19 = .ok (.invokestatic 41, 3) := by decide +kernel
theorem dX6_has_22 : decode cX6_has 22 = .ok (.ifCond .ne 5, 3) := by decide +kernel
theorem dX6_has_25 : decode cX6_has 25 = .ok (.iconst (-1), 1) := by decide +kernel
theorem dX6_has_26 : decode cX6_has 26 = .ok (.ireturn, 1) := by decide +kernel
theorem dX6_has_27 : decode cX6_has 27 = .ok (.iload_n 3, 1) := by decide +kernel
theorem dX6_has_28 : decode cX6_has 28 = .ok (.ifCond .ne 12, 3) := by decide +kernel
theorem dX6_has_31 : decode cX6_has 31 = .ok (.aload_n 0, 1) := by decide +kernel
theorem dX6_has_32 : decode cX6_has 32 = .ok (.iload_n 1, 1) := by decide +kernel
theorem dX6_has_33 : decode cX6_has 33 = .ok (.iload_n 2, 1) := by decide +kernel
theorem dX6_has_34 : decode cX6_has 34 = .ok (.invokevirtual 47, 3) := by decide +kernel
theorem dX6_has_37 : decode cX6_has 37 = .ok (.goto 9, 3) := by decide +kernel
theorem dX6_has_40 : decode cX6_has 40 = .ok (.aload_n 0, 1) := by decide +kernel
theorem dX6_has_41 : decode cX6_has 41 = .ok (.iload_n 1, 1) := by decide +kernel
theorem dX6_has_42 : decode cX6_has 42 = .ok (.iload_n 2, 1) := by decide +kernel
theorem dX6_has_43 : decode cX6_has 43 = .ok (.invokevirtual 61, 3) := by decide +kernel
theorem dX6_has_46 : decode cX6_has 46 = .ok (.ireturn, 1) := by decide +kernel
theorem dX6_at_0 : decode cX6_at 0 = .ok (.iload_n 1, 1) := by decide +kernel
theorem dX6_at_1 : decode cX6_at 1 = .ok (.i2l, 1) := by decide +kernel
theorem dX6_at_2 : decode cX6_at 2 = .ok (.lconst 0, 1) := by decide +kernel
theorem dX6_at_3 : decode cX6_at 3 = .ok (.ldc2_w 84, 3) := by decide +kernel
theorem dX6_at_6 : decode cX6_at 6 = .ok (.invokestatic 41, 3) := by decide +kernel
theorem dX6_at_9 : decode cX6_at 9 = .ok (.ifCond .eq 28, 3) := by decide +kernel
theorem dX6_at_12 : decode cX6_at 12 = .ok (.iload_n 2, 1) := by decide +kernel
theorem dX6_at_13 : decode cX6_at 13 = .ok (.i2l, 1) := by decide +kernel
theorem dX6_at_14 : decode cX6_at 14 = .ok (.lconst 0, 1) := by decide +kernel
theorem dX6_at_15 : decode cX6_at 15 = .ok (.lconst 1, 1) := by decide +kernel
theorem dX6_at_16 : decode cX6_at 16 = .ok (.invokestatic 41, 3) := by decide +kernel
theorem dX6_at_19 : decode cX6_at 19 = .ok (.ifCond .eq 18, 3) := by decide +kernel
theorem dX6_at_22 : decode cX6_at 22 = .ok (.aload_n 0, 1) := by decide +kernel
theorem dX6_at_23 : decode cX6_at 23 = .ok (.getfield 7, 3) := by decide +kernel
theorem dX6_at_26 : decode cX6_at 26 = .ok (.iconst 2, 1) := by decide +kernel
theorem dX6_at_27 : decode cX6_at 27 = .ok (.iload_n 2, 1) := by decide +kernel
theorem dX6_at_28 : decode cX6_at 28 = .ok (.iadd, 1) := by decide +kernel
theorem dX6_at_29 : decode cX6_at 29 = .ok (.iaload, 1) := by decide +kernel
theorem dX6_at_30 : decode cX6_at 30 = .ok (.iload_n 1, 1) := by decide +kernel
theorem dX6_at_31 : decode cX6_at 31 = .ok (.ishr, 1) := by decide +kernel
theorem dX6_at_32 : decode cX6_at 32 = .ok (.iconst 1, 1) := by decide +kernel
theorem dX6_at_33 : decode cX6_at 33 = .ok (.iand, 1) := by decide +kernel
theorem dX6_at_34 : decode cX6_at 34 = .ok (.goto 4, 3) := by decide +kernel
theorem dX6_at_37 : decode cX6_at 37 = .ok (.iconst (-1), 1) := by decide +kernel
theorem dX6_at_38 : decode cX6_at 38 = .ok (.ireturn, 1) := by decide +kernel
theorem dX6_chalkAll_0 : decode cX6_chalkAll 0 = .ok (.iconst 0, 1) := by decide +kernel
theorem dX6_chalkAll_1 : decode cX6_chalkAll 1 = .ok (.istore_n 1, 1) := by decide +kernel
theorem dX6_chalkAll_2 : decode cX6_chalkAll 2 = .ok (.iconst 0, 1) := by decide +kernel
theorem dX6_chalkAll_3 : decode cX6_chalkAll 3 = .ok (.istore_n 2, 1) := by decide +kernel
theorem dX6_chalkAll_4 : decode cX6_chalkAll 4 = .ok (.iload_n 2, 1) := by decide +kernel
theorem dX6_chalkAll_5 : decode cX6_chalkAll 5 = .ok (.aload_n 0, 1) := by decide +kernel
theorem dX6_chalkAll_6 : decode cX6_chalkAll 6 = .ok (.getfield 7, 3) := by decide +kernel
theorem dX6_chalkAll_9 : decode cX6_chalkAll 9 = .ok (.iconst 0, 1) := by decide +kernel
theorem dX6_chalkAll_10 : decode cX6_chalkAll 10 = .ok (.iaload, 1) := by decide +kernel
theorem dX6_chalkAll_11 : decode cX6_chalkAll 11 = .ok (.if_icmp .ge 18, 3) := by decide +kernel
theorem dX6_chalkAll_14 : decode cX6_chalkAll 14 = .ok (.iload_n 1, 1) := by decide +kernel
theorem dX6_chalkAll_15 : decode cX6_chalkAll 15 = .ok (.aload_n 0, 1) := by decide +kernel
theorem dX6_chalkAll_16 : decode cX6_chalkAll 16 = .ok (.iload_n 2, 1) := by decide +kernel
theorem dX6_chalkAll_17 : decode cX6_chalkAll 17 = .ok (.iconst 2, 1) := by decide +kernel
theorem dX6_chalkAll_18 : decode cX6_chalkAll 18 = .ok (.invokevirtual 55, 3) := by decide +kernel
theorem dX6_chalkAll_21 : decode cX6_chalkAll 21 = .ok (.iadd, 1) := by decide +kernel
theorem dX6_chalkAll_22 : decode cX6_chalkAll 22 = .ok (.istore_n 1, 1) := by decide +kernel
theorem dX6_chalkAll_23 : decode cX6_chalkAll 23 = .ok (.iinc 2 1, 3) := by decide +kernel
theorem dX6_chalkAll_26 : decode cX6_chalkAll 26 = .ok (.goto (-22), 3) := by decide +kernel
theorem dX6_chalkAll_29 : decode cX6_chalkAll 29 = .ok (.iload_n 1, 1) := by decide +kernel
theorem dX6_chalkAll_30 : decode cX6_chalkAll 30 = .ok (.ireturn, 1) := by decide +kernel
theorem dX6_count_0 : decode cX6_count 0 = .ok (.iload_n 1, 1) := by decide +kernel
theorem dX6_count_1 : decode cX6_count 1 = .ok (.tableswitch 65 0 6 #[43, 43, 43, 43, 50, 55, 60], 43) := by decide +kernel
theorem dX6_count_44 : decode cX6_count 44 = .ok (.aload_n 0, 1) := by decide +kernel
theorem dX6_count_45 : decode cX6_count 45 = .ok (.getfield 7, 3) := by decide +kernel
theorem dX6_count_48 : decode cX6_count 48 = .ok (.iload_n 1, 1) := by decide +kernel
theorem dX6_count_49 : decode cX6_count 49 = .ok (.iaload, 1) := by decide +kernel
theorem dX6_count_50 : decode cX6_count 50 = .ok (.ireturn, 1) := by decide +kernel
theorem dX6_count_51 : decode cX6_count 51 = .ok (.aload_n 0, 1) := by decide +kernel
theorem dX6_count_52 : decode cX6_count 52 = .ok (.invokevirtual 95, 3) := by decide +kernel
theorem dX6_count_55 : decode cX6_count 55 = .ok (.ireturn, 1) := by decide +kernel
theorem dX6_count_56 : decode cX6_count 56 = .ok (.aload_n 0, 1) := by decide +kernel
theorem dX6_count_57 : decode cX6_count 57 = .ok (.invokevirtual 99, 3) := by decide +kernel
theorem dX6_count_60 : decode cX6_count 60 = .ok (.ireturn, 1) := by decide +kernel
theorem dX6_count_61 : decode cX6_count 61 = .ok (.aload_n 0, 1) := by decide +kernel
theorem dX6_count_62 : decode cX6_count 62 = .ok (.getfield 68, 3) := by decide +kernel
theorem dX6_count_65 : decode cX6_count 65 = .ok (.ireturn, 1) := by decide +kernel
theorem dX6_count_66 : decode cX6_count 66 = .ok (.iconst (-1), 1) := by decide +kernel
theorem dX6_count_67 : decode cX6_count 67 = .ok (.ireturn, 1) := by decide +kernel
theorem dX6_type_0 : decode cX6_type 0 = .ok (.iload_n 1, 1) := by decide +kernel
theorem dX6_type_1 : decode cX6_type 1 = .ok (.i2l, 1) := by decide +kernel
theorem dX6_type_2 : decode cX6_type 2 = .ok (.ldc2_w 102, 3) := by decide +kernel
theorem dX6_type_5 : decode cX6_type 5 = .ok (.ldc2_w 104, 3) := by decide +kernel
theorem dX6_type_8 : decode cX6_type 8 = .ok (.invokestatic 41, 3) := by decide +kernel
theorem dX6_type_11 : decode cX6_type 11 = .ok (.ifCond .ne 5, 3) := by decide +kernel
theorem dX6_type_14 : decode cX6_type 14 = .ok (.iconst (-1), 1) := by decide +kernel
theorem dX6_type_15 : decode cX6_type 15 = .ok (.ireturn, 1) := by decide +kernel
theorem dX6_type_16 : decode cX6_type 16 = .ok (.aload_n 0, 1) := by decide +kernel
theorem dX6_type_17 : decode cX6_type 17 = .ok (.getfield 106, 3) := by decide +kernel
theorem dX6_type_20 : decode cX6_type 20 = .ok (.bipush 100, 2) := by decide +kernel
theorem dX6_type_22 : decode cX6_type 22 = .ok (.if_icmp .ne 6, 3) := by decide +kernel
theorem dX6_type_25 : decode cX6_type 25 = .ok (.bipush (-3), 2) := by decide +kernel
theorem dX6_type_27 : decode cX6_type 27 = .ok (.ireturn, 1) := by decide +kernel
theorem dX6_type_28 : decode cX6_type 28 = .ok (.aload_n 0, 1) := by decide +kernel
theorem dX6_type_29 : decode cX6_type 29 = .ok (.getfield 13, 3) := by decide +kernel
theorem dX6_type_32 : decode cX6_type 32 = .ok (.aload_n 0, 1) := by decide +kernel
theorem dX6_type_33 : decode cX6_type 33 = .ok (.getfield 106, 3) := by decide +kernel
theorem dX6_type_36 : decode cX6_type 36 = .ok (.iload_n 1, 1) := by decide +kernel
theorem dX6_type_37 : decode cX6_type 37 = .ok (.iastore, 1) := by decide +kernel
theorem dX6_type_38 : decode cX6_type 38 = .ok (.aload_n 0, 1) := by decide +kernel
theorem dX6_type_39 : decode cX6_type 39 = .ok (.dup, 1) := by decide +kernel
theorem dX6_type_40 : decode cX6_type 40 = .ok (.getfield 106, 3) := by decide +kernel
theorem dX6_type_43 : decode cX6_type 43 = .ok (.iconst 1, 1) := by decide +kernel
theorem dX6_type_44 : decode cX6_type 44 = .ok (.iadd, 1) := by decide +kernel
theorem dX6_type_45 : decode cX6_type 45 = .ok (.putfield 106, 3) := by decide +kernel
theorem dX6_type_48 : decode cX6_type 48 = .ok (.aload_n 0, 1) := by decide +kernel
theorem dX6_type_49 : decode cX6_type 49 = .ok (.getfield 106, 3) := by decide +kernel
theorem dX6_type_52 : decode cX6_type 52 = .ok (.ireturn, 1) := by decide +kernel
theorem dX6_here_0 : decode cX6_here 0 = .ok (.aload_n 0, 1) := by decide +kernel
theorem dX6_here_1 : decode cX6_here 1 = .ok (.getfield 109, 3) := by decide +kernel
theorem dX6_here_4 : decode cX6_here 4 = .ok (.aload_n 0, 1) := by decide +kernel
theorem dX6_here_5 : decode cX6_here 5 = .ok (.getfield 106, 3) := by decide +kernel
theorem dX6_here_8 : decode cX6_here 8 = .ok (.if_icmp .ge 30, 3) := by decide +kernel
theorem dX6_here_11 : decode cX6_here 11 = .ok (.aload_n 0, 1) := by decide +kernel
theorem dX6_here_12 : decode cX6_here 12 = .ok (.getfield 13, 3) := by decide +kernel
theorem dX6_here_15 : decode cX6_here 15 = .ok (.aload_n 0, 1) := by decide +kernel
theorem dX6_here_16 : decode cX6_here 16 = .ok (.getfield 109, 3) := by decide +kernel
theorem dX6_here_19 : decode cX6_here 19 = .ok (.iaload, 1) := by decide +kernel
theorem dX6_here_20 : decode cX6_here 20 = .ok (.bipush 32, 2) := by decide +kernel
theorem dX6_here_22 : decode cX6_here 22 = .ok (.if_icmp .ne 16, 3) := by decide +kernel
theorem dX6_here_25 : decode cX6_here 25 = .ok (.aload_n 0, 1) := by decide +kernel
theorem dX6_here_26 : decode cX6_here 26 = .ok (.dup, 1) := by decide +kernel
theorem dX6_here_27 : decode cX6_here 27 = .ok (.getfield 109, 3) := by decide +kernel
theorem dX6_here_30 : decode cX6_here 30 = .ok (.iconst 1, 1) := by decide +kernel
theorem dX6_here_31 : decode cX6_here 31 = .ok (.iadd, 1) := by decide +kernel
theorem dX6_here_32 : decode cX6_here 32 = .ok (.putfield 109, 3) := by decide +kernel
theorem dX6_here_35 : decode cX6_here 35 = .ok (.goto (-35), 3) := by decide +kernel
theorem dX6_here_38 : decode cX6_here 38 = .ok (.aload_n 0, 1) := by decide +kernel
theorem dX6_here_39 : decode cX6_here 39 = .ok (.getfield 109, 3) := by decide +kernel
theorem dX6_here_42 : decode cX6_here 42 = .ok (.aload_n 0, 1) := by decide +kernel
theorem dX6_here_43 : decode cX6_here 43 = .ok (.getfield 106, 3) := by decide +kernel
theorem dX6_here_46 : decode cX6_here 46 = .ok (.if_icmp .ge 15, 3) := by decide +kernel
theorem dX6_here_49 : decode cX6_here 49 = .ok (.aload_n 0, 1) := by decide +kernel
theorem dX6_here_50 : decode cX6_here 50 = .ok (.getfield 13, 3) := by decide +kernel
theorem dX6_here_53 : decode cX6_here 53 = .ok (.aload_n 0, 1) := by decide +kernel
theorem dX6_here_54 : decode cX6_here 54 = .ok (.getfield 109, 3) := by decide +kernel
theorem dX6_here_57 : decode cX6_here 57 = .ok (.iaload, 1) := by decide +kernel
theorem dX6_here_58 : decode cX6_here 58 = .ok (.goto 4, 3) := by decide +kernel
theorem dX6_here_61 : decode cX6_here 61 = .ok (.iconst 0, 1) := by decide +kernel
theorem dX6_here_62 : decode cX6_here 62 = .ok (.ireturn, 1) := by decide +kernel
theorem dX6_must_0 : decode cX6_must 0 = .ok (.aload_n 0, 1) := by decide +kernel
theorem dX6_must_1 : decode cX6_must 1 = .ok (.aload_n 0, 1) := by decide +kernel
theorem dX6_must_2 : decode cX6_must 2 = .ok (.getfield 112, 3) := by decide +kernel
theorem dX6_must_5 : decode cX6_must 5 = .ok (.ifCond .ne 7, 3) := by decide +kernel
theorem dX6_must_8 : decode cX6_must 8 = .ok (.iload_n 1, 1) := by decide +kernel
theorem dX6_must_9 : decode cX6_must 9 = .ok (.ifCond .ne 7, 3) := by decide +kernel
theorem dX6_must_12 : decode cX6_must 12 = .ok (.iconst 1, 1) := by decide +kernel
theorem dX6_must_13 : decode cX6_must 13 = .ok (.goto 4, 3) := by decide +kernel
theorem dX6_must_16 : decode cX6_must 16 = .ok (.iconst 0, 1) := by decide +kernel
theorem dX6_must_17 : decode cX6_must 17 = .ok (.putfield 112, 3) := by decide +kernel
theorem dX6_must_20 : decode cX6_must 20 = .ok (.aload_n 0, 1) := by decide +kernel
theorem dX6_must_21 : decode cX6_must 21 = .ok (.dup, 1) := by decide +kernel
theorem dX6_must_22 : decode cX6_must 22 = .ok (.getfield 109, 3) := by decide +kernel
theorem dX6_must_25 : decode cX6_must 25 = .ok (.aload_n 0, 1) := by decide +kernel
theorem dX6_must_26 : decode cX6_must 26 = .ok (.getfield 112, 3) := by decide +kernel
theorem dX6_must_29 : decode cX6_must 29 = .ok (.ifCond .eq 7, 3) := by decide +kernel
theorem dX6_must_32 : decode cX6_must 32 = .ok (.iconst 0, 1) := by decide +kernel
theorem dX6_must_33 : decode cX6_must 33 = .ok (.goto 4, 3) := by decide +kernel
theorem dX6_must_36 : decode cX6_must 36 = .ok (.iconst 1, 1) := by decide +kernel
theorem dX6_must_37 : decode cX6_must 37 = .ok (.iadd, 1) := by decide +kernel
theorem dX6_must_38 : decode cX6_must 38 = .ok (.putfield 109, 3) := by decide +kernel
theorem dX6_must_41 : decode cX6_must 41 = .ok (.return_, 1) := by decide +kernel
theorem dX6_number_0 : decode cX6_number 0 = .ok (.aload_n 0, 1) := by decide +kernel
theorem dX6_number_1 : decode cX6_number 1 = .ok (.getfield 112, 3) := by decide +kernel
theorem dX6_number_4 : decode cX6_number 4 = .ok (.ifCond .eq 7, 3) := by decide +kernel
theorem dX6_number_7 : decode cX6_number 7 = .ok (.iconst 0, 1) := by decide +kernel
theorem dX6_number_8 : decode cX6_number 8 = .ok (.goto 7, 3) := by decide +kernel
theorem dX6_number_11 : decode cX6_number 11 = .ok (.aload_n 0, 1) := by decide +kernel
theorem dX6_number_12 : decode cX6_number 12 = .ok (.invokevirtual 116, 3) := by decide +kernel
theorem dX6_number_15 : decode cX6_number 15 = .ok (.istore_n 1, 1) := by decide +kernel
theorem dX6_number_16 : decode cX6_number 16 = .ok (.aload_n 0, 1) := by decide +kernel
theorem dX6_number_17 : decode cX6_number 17 = .ok (.getfield 109, 3) := by decide +kernel
theorem dX6_number_20 : decode cX6_number 20 = .ok (.istore_n 2, 1) := by decide +kernel
theorem dX6_number_21 : decode cX6_number 21 = .ok (.iconst 0, 1) := by decide +kernel
theorem dX6_number_22 : decode cX6_number 22 = .ok (.istore_n 3, 1) := by decide +kernel
theorem dX6_number_23 : decode cX6_number 23 = .ok (.aload_n 0, 1) := by decide +kernel
theorem dX6_number_24 : decode cX6_number 24 = .ok (.aload_n 0, 1) := by decide +kernel
theorem dX6_number_25 : decode cX6_number 25 = .ok (.getfield 112, 3) := by decide +kernel
theorem dX6_number_28 : decode cX6_number 28 = .ok (.ifCond .ne 17, 3) := by decide +kernel
theorem dX6_number_31 : decode cX6_number 31 = .ok (.iload_n 1, 1) := by decide +kernel
theorem dX6_number_32 : decode cX6_number 32 = .ok (.i2l, 1) := by decide +kernel
theorem dX6_number_33 : decode cX6_number 33 = .ok (.ldc2_w 119, 3) := by decide +kernel
theorem dX6_number_36 : decode cX6_number 36 = .ok (.ldc2_w 121, 3) := by decide +kernel
theorem dX6_number_39 : decode cX6_number 39 = .ok (.invokestatic 41, 3) := by decide +kernel
theorem dX6_number_42 : decode cX6_number 42 = .ok (.ifCond .ne 7, 3) := by decide +kernel
theorem dX6_number_45 : decode cX6_number 45 = .ok (.iconst 1, 1) := by decide +kernel
theorem dX6_number_46 : decode cX6_number 46 = .ok (.goto 4, 3) := by decide +kernel
theorem dX6_number_49 : decode cX6_number 49 = .ok (.iconst 0, 1) := by decide +kernel
theorem dX6_number_50 : decode cX6_number 50 = .ok (.putfield 112, 3) := by decide +kernel
theorem dX6_number_53 : decode cX6_number 53 = .ok (.aload_n 0, 1) := by decide +kernel
theorem dX6_number_54 : decode cX6_number 54 = .ok (.getfield 112, 3) := by decide +kernel
theorem dX6_number_57 : decode cX6_number 57 = .ok (.ifCond .ne 77, 3) := by decide +kernel
theorem dX6_number_60 : decode cX6_number 60 = .ok (.aload_n 0, 1) := by decide +kernel
theorem dX6_number_61 : decode cX6_number 61 = .ok (.getfield 109, 3) := by decide +kernel
theorem dX6_number_64 : decode cX6_number 64 = .ok (.aload_n 0, 1) := by decide +kernel
theorem dX6_number_65 : decode cX6_number 65 = .ok (.getfield 106, 3) := by decide +kernel
theorem dX6_number_68 : decode cX6_number 68 = .ok (.if_icmp .ge 66, 3) := by decide +kernel
theorem dX6_number_71 : decode cX6_number 71 = .ok (.aload_n 0, 1) := by decide +kernel
theorem dX6_number_72 : decode cX6_number 72 = .ok (.getfield 109, 3) := by decide +kernel
theorem dX6_number_75 : decode cX6_number 75 = .ok (.iload_n 2, 1) := by decide +kernel
theorem dX6_number_76 : decode cX6_number 76 = .ok (.isub, 1) := by decide +kernel
theorem dX6_number_77 : decode cX6_number 77 = .ok (.iconst 2, 1) := by decide +kernel
theorem dX6_number_78 : decode cX6_number 78 = .ok (.if_icmp .ge 56, 3) := by decide +kernel
theorem dX6_number_81 : decode cX6_number 81 = .ok (.aload_n 0, 1) := by decide +kernel
theorem dX6_number_82 : decode cX6_number 82 = .ok (.getfield 13, 3) := by decide +kernel
theorem dX6_number_85 : decode cX6_number 85 = .ok (.aload_n 0, 1) := by decide +kernel
theorem dX6_number_86 : decode cX6_number 86 = .ok (.getfield 109, 3) := by decide +kernel
theorem dX6_number_89 : decode cX6_number 89 = .ok (.iaload, 1) := by decide +kernel
theorem dX6_number_90 : decode cX6_number 90 = .ok (.i2l, 1) := by decide +kernel
theorem dX6_number_91 : decode cX6_number 91 = .ok (.ldc2_w 119, 3) := by decide +kernel
theorem dX6_number_94 : decode cX6_number 94 = .ok (.ldc2_w 121, 3) := by decide +kernel
theorem dX6_number_97 : decode cX6_number 97 = .ok (.invokestatic 41, 3) := by decide +kernel
theorem dX6_number_100 : decode cX6_number 100 = .ok (.ifCond .eq 34, 3) := by decide +kernel
theorem dX6_number_103 : decode cX6_number 103 = .ok (.bipush 10, 2) := by decide +kernel
theorem dX6_number_105 : decode cX6_number 105 = .ok (.iload_n 3, 1) := by decide +kernel
theorem dX6_number_106 : decode cX6_number 106 = .ok (.imul, 1) := by decide +kernel
theorem dX6_number_107 : decode cX6_number 107 = .ok (.aload_n 0, 1) := by decide +kernel
theorem dX6_number_108 : decode cX6_number 108 = .ok (.getfield 13, 3) := by decide +kernel
theorem dX6_number_111 : decode cX6_number 111 = .ok (.aload_n 0, 1) := by decide +kernel
theorem dX6_number_112 : decode cX6_number 112 = .ok (.getfield 109, 3) := by decide +kernel
theorem dX6_number_115 : decode cX6_number 115 = .ok (.iaload, 1) := by decide +kernel
theorem dX6_number_116 : decode cX6_number 116 = .ok (.iadd, 1) := by decide +kernel
theorem dX6_number_117 : decode cX6_number 117 = .ok (.bipush 48, 2) := by decide +kernel
theorem dX6_number_119 : decode cX6_number 119 = .ok (.isub, 1) := by decide +kernel
theorem dX6_number_120 : decode cX6_number 120 = .ok (.istore_n 3, 1) := by decide +kernel
theorem dX6_number_121 : decode cX6_number 121 = .ok (.aload_n 0, 1) := by decide +kernel
theorem dX6_number_122 : decode cX6_number 122 = .ok (.dup, 1) := by decide +kernel
theorem dX6_number_123 : decode cX6_number 123 = .ok (.getfield 109, 3) := by decide +kernel
theorem dX6_number_126 : decode cX6_number 126 = .ok (.iconst 1, 1) := by decide +kernel
theorem dX6_number_127 : decode cX6_number 127 = .ok (.iadd, 1) := by decide +kernel
theorem dX6_number_128 : decode cX6_number 128 = .ok (.putfield 109, 3) := by decide +kernel
theorem dX6_number_131 : decode cX6_number 131 = .ok (.goto (-78), 3) := by decide +kernel
theorem dX6_number_134 : decode cX6_number 134 = .ok (.iload_n 3, 1) := by decide +kernel
theorem dX6_number_135 : decode cX6_number 135 = .ok (.ireturn, 1) := by decide +kernel
theorem dX6_letters_0 : decode cX6_letters 0 = .ok (.aload_n 0, 1) := by decide +kernel
theorem dX6_letters_1 : decode cX6_letters 1 = .ok (.getfield 112, 3) := by decide +kernel
theorem dX6_letters_4 : decode cX6_letters 4 = .ok (.ifCond .ne 11, 3) := by decide +kernel
theorem dX6_letters_7 : decode cX6_letters 7 = .ok (.aload_n 0, 1) := by decide +kernel
theorem dX6_letters_8 : decode cX6_letters 8 = .ok (.invokevirtual 116, 3) := by decide +kernel
theorem dX6_letters_11 : decode cX6_letters 11 = .ok (.iload_n 1, 1) := by decide +kernel
theorem dX6_letters_12 : decode cX6_letters 12 = .ok (.if_icmp .eq 5, 3) := by decide +kernel
theorem dX6_letters_15 : decode cX6_letters 15 = .ok (.iconst 0, 1) := by decide +kernel
theorem dX6_letters_16 : decode cX6_letters 16 = .ok (.ireturn, 1) := by decide +kernel
theorem dX6_letters_17 : decode cX6_letters 17 = .ok (.aload_n 0, 1) := by decide +kernel
theorem dX6_letters_18 : decode cX6_letters 18 = .ok (.dup, 1) := by decide +kernel
theorem dX6_letters_19 : decode cX6_letters 19 = .ok (.getfield 109, 3) := by decide +kernel
theorem dX6_letters_22 : decode cX6_letters 22 = .ok (.iconst 1, 1) := by decide +kernel
theorem dX6_letters_23 : decode cX6_letters 23 = .ok (.iadd, 1) := by decide +kernel
theorem dX6_letters_24 : decode cX6_letters 24 = .ok (.putfield 109, 3) := by decide +kernel
theorem dX6_letters_27 : decode cX6_letters 27 = .ok (.iconst 0, 1) := by decide +kernel
theorem dX6_letters_28 : decode cX6_letters 28 = .ok (.istore_n 2, 1) := by decide +kernel
theorem dX6_letters_29 : decode cX6_letters 29 = .ok (.aload_n 0, 1) := by decide +kernel
theorem dX6_letters_30 : decode cX6_letters 30 = .ok (.invokevirtual 116, 3) := by decide +kernel
theorem dX6_letters_33 : decode cX6_letters 33 = .ok (.bipush 97, 2) := by decide +kernel
theorem dX6_letters_35 : decode cX6_letters 35 = .ok (.isub, 1) := by decide +kernel
theorem dX6_letters_36 : decode cX6_letters 36 = .ok (.istore_n 3, 1) := by decide +kernel
theorem dX6_letters_37 : decode cX6_letters 37 = .ok (.aload_n 0, 1) := by decide +kernel
theorem dX6_letters_38 : decode cX6_letters 38 = .ok (.iload_n 3, 1) := by decide +kernel
theorem dX6_letters_39 : decode cX6_letters 39 = .ok (.invokestatic 92, 3) := by decide +kernel
theorem dX6_letters_42 : decode cX6_letters 42 = .ok (.ifCond .ne 7, 3) := by decide +kernel
theorem dX6_letters_45 : decode cX6_letters 45 = .ok (.iconst 1, 1) := by decide +kernel
theorem dX6_letters_46 : decode cX6_letters 46 = .ok (.goto 4, 3) := by decide +kernel
theorem dX6_letters_49 : decode cX6_letters 49 = .ok (.iconst 0, 1) := by decide +kernel
theorem dX6_letters_50 : decode cX6_letters 50 = .ok (.putfield 112, 3) := by decide +kernel
theorem dX6_letters_53 : decode cX6_letters 53 = .ok (.aload_n 0, 1) := by decide +kernel
theorem dX6_letters_54 : decode cX6_letters 54 = .ok (.getfield 112, 3) := by decide +kernel
theorem dX6_letters_57 : decode cX6_letters 57 = .ok (.ifCond .ne 44, 3) := by decide +kernel
theorem dX6_letters_60 : decode cX6_letters 60 = .ok (.iload_n 3, 1) := by decide +kernel
theorem dX6_letters_61 : decode cX6_letters 61 = .ok (.invokestatic 92, 3) := by decide +kernel
theorem dX6_letters_64 : decode cX6_letters 64 = .ok (.ifCond .eq 37, 3) := by decide +kernel
theorem dX6_letters_67 : decode cX6_letters 67 = .ok (.iconst 1, 1) := by decide +kernel
theorem dX6_letters_68 : decode cX6_letters 68 = .ok (.iload_n 3, 1) := by decide +kernel
theorem dX6_letters_69 : decode cX6_letters 69 = .ok (.ishl, 1) := by decide +kernel
theorem dX6_letters_70 : decode cX6_letters 70 = .ok (.iload_n 2, 1) := by decide +kernel
theorem dX6_letters_71 : decode cX6_letters 71 = .ok (.if_icmp .le 30, 3) := by decide +kernel
theorem dX6_letters_74 : decode cX6_letters 74 = .ok (.iload_n 2, 1) := by decide +kernel
theorem dX6_letters_75 : decode cX6_letters 75 = .ok (.iconst 1, 1) := by decide +kernel
theorem dX6_letters_76 : decode cX6_letters 76 = .ok (.iload_n 3, 1) := by decide +kernel
theorem dX6_letters_77 : decode cX6_letters 77 = .ok (.ishl, 1) := by decide +kernel
theorem dX6_letters_78 : decode cX6_letters 78 = .ok (.ior, 1) := by decide +kernel
theorem dX6_letters_79 : decode cX6_letters 79 = .ok (.istore_n 2, 1) := by decide +kernel
theorem dX6_letters_80 : decode cX6_letters 80 = .ok (.aload_n 0, 1) := by decide +kernel
theorem dX6_letters_81 : decode cX6_letters 81 = .ok (.dup, 1) := by decide +kernel
theorem dX6_letters_82 : decode cX6_letters 82 = .ok (.getfield 109, 3) := by decide +kernel
theorem dX6_letters_85 : decode cX6_letters 85 = .ok (.iconst 1, 1) := by decide +kernel
theorem dX6_letters_86 : decode cX6_letters 86 = .ok (.iadd, 1) := by decide +kernel
theorem dX6_letters_87 : decode cX6_letters 87 = .ok (.putfield 109, 3) := by decide +kernel
theorem dX6_letters_90 : decode cX6_letters 90 = .ok (.aload_n 0, 1) := by decide +kernel
theorem dX6_letters_91 : decode cX6_letters 91 = .ok (.invokevirtual 116, 3) := by decide +kernel
theorem dX6_letters_94 : decode cX6_letters 94 = .ok (.bipush 97, 2) := by decide +kernel
theorem dX6_letters_96 : decode cX6_letters 96 = .ok (.isub, 1) := by decide +kernel
theorem dX6_letters_97 : decode cX6_letters 97 = .ok (.istore_n 3, 1) := by decide +kernel
theorem dX6_letters_98 : decode cX6_letters 98 = .ok (.goto (-45), 3) := by decide +kernel
theorem dX6_letters_101 : decode cX6_letters 101 = .ok (.iload_n 2, 1) := by decide +kernel
theorem dX6_letters_102 : decode cX6_letters 102 = .ok (.ireturn, 1) := by decide +kernel
theorem dX6_readSundays_0 : decode cX6_readSundays 0 = .ok (.aload_n 0, 1) := by decide +kernel
theorem dX6_readSundays_1 : decode cX6_readSundays 1 = .ok (.iconst 0, 1) := by decide +kernel
theorem dX6_readSundays_2 : decode cX6_readSundays 2 = .ok (.putfield 123, 3) := by decide +kernel
theorem dX6_readSundays_5 : decode cX6_readSundays 5 = .ok (.aload_n 0, 1) := by decide +kernel
theorem dX6_readSundays_6 : decode cX6_readSundays 6 = .ok (.iconst 0, 1) := by decide +kernel
theorem dX6_readSundays_7 : decode cX6_readSundays 7 = .ok (.putfield 126, 3) := by decide +kernel
theorem dX6_readSundays_10 : decode cX6_readSundays 10 = .ok (.iconst 0, 1) := by decide +kernel
theorem dX6_readSundays_11 : decode cX6_readSundays 11 = .ok (.istore_n 1, 1) := by decide +kernel
theorem dX6_readSundays_12 : decode cX6_readSundays 12 = .ok (.iload_n 1, 1) := by decide +kernel
theorem dX6_readSundays_13 : decode cX6_readSundays 13 = .ok (.bipush 6, 2) := by decide +kernel
theorem dX6_readSundays_15 : decode cX6_readSundays 15 = .ok (.if_icmp .ge 114, 3) := by decide +kernel
theorem dX6_readSundays_18 : decode cX6_readSundays 18 = .ok (.aload_n 0, 1) := by decide +kernel
theorem dX6_readSundays_19 : decode cX6_readSundays 19 = .ok (.getfield 112, 3) := by decide +kernel
theorem dX6_readSundays_22 : decode cX6_readSundays 22 = .ok (.ifCond .eq 7, 3) := by decide +kernel
theorem dX6_readSundays_25 : decode cX6_readSundays 25 = .ok (.iconst 0, 1) := by decide +kernel
theorem dX6_readSundays_26 : decode cX6_readSundays 26 = .ok (.goto 7, 3) := by decide +kernel
theorem dX6_readSundays_29 : decode cX6_readSundays 29 = .ok (.aload_n 0, 1) := by decide +kernel
theorem dX6_readSundays_30 : decode cX6_readSundays 30 = .ok (.invokevirtual 116, 3) := by decide +kernel
theorem dX6_readSundays_33 : decode cX6_readSundays 33 = .ok (.istore_n 2, 1) := by decide +kernel
theorem dX6_readSundays_34 : decode cX6_readSundays 34 = .ok (.aload_n 0, 1) := by decide +kernel
theorem dX6_readSundays_35 : decode cX6_readSundays 35 = .ok (.iload_n 2, 1) := by decide +kernel
theorem dX6_readSundays_36 : decode cX6_readSundays 36 = .ok (.bipush 46, 2) := by decide +kernel
theorem dX6_readSundays_38 : decode cX6_readSundays 38 = .ok (.if_icmp .eq 21, 3) := by decide +kernel
theorem dX6_readSundays_41 : decode cX6_readSundays 41 = .ok (.iload_n 2, 1) := by decide +kernel
theorem dX6_readSundays_42 : decode cX6_readSundays 42 = .ok (.bipush 119, 2) := by decide +kernel
theorem dX6_readSundays_44 : decode cX6_readSundays 44 = .ok (.if_icmp .eq 15, 3) := by decide +kernel
theorem dX6_readSundays_47 : decode cX6_readSundays 47 = .ok (.iload_n 2, 1) := by decide +kernel
theorem dX6_readSundays_48 : decode cX6_readSundays 48 = .ok (.bipush 104, 2) := by decide +kernel
theorem dX6_readSundays_50 : decode cX6_readSundays 50 = .ok (.if_icmp .eq 9, 3) := by decide +kernel
theorem dX6_readSundays_53 : decode cX6_readSundays 53 = .ok (.iload_n 2, 1) := by decide +kernel
theorem dX6_readSundays_54 : decode cX6_readSundays 54 = .ok (.bipush 98, 2) := by decide +kernel
theorem dX6_readSundays_56 : decode cX6_readSundays 56 = .ok (.if_icmp .ne 7, 3) := by decide +kernel
theorem dX6_readSundays_59 : decode cX6_readSundays 59 = .ok (.iconst 1, 1) := by decide +kernel
theorem dX6_readSundays_60 : decode cX6_readSundays 60 = .ok (.goto 4, 3) := by decide +kernel
theorem dX6_readSundays_63 : decode cX6_readSundays 63 = .ok (.iconst 0, 1) := by decide +kernel
theorem dX6_readSundays_64 : decode cX6_readSundays 64 = .ok (.invokevirtual 129, 3) := by decide +kernel
theorem dX6_readSundays_67 : decode cX6_readSundays 67 = .ok (.aload_n 0, 1) := by decide +kernel
theorem dX6_readSundays_68 : decode cX6_readSundays 68 = .ok (.dup, 1) := by decide +kernel
theorem dX6_readSundays_69 : decode cX6_readSundays 69 = .ok (.getfield 123, 3) := by decide +kernel
theorem dX6_readSundays_72 : decode cX6_readSundays 72 = .ok (.iload_n 2, 1) := by decide +kernel
theorem dX6_readSundays_73 : decode cX6_readSundays 73 = .ok (.bipush 119, 2) := by decide +kernel
theorem dX6_readSundays_75 : decode cX6_readSundays 75 = .ok (.if_icmp .eq 9, 3) := by decide +kernel
theorem dX6_readSundays_78 : decode cX6_readSundays 78 = .ok (.iload_n 2, 1) := by decide +kernel
theorem dX6_readSundays_79 : decode cX6_readSundays 79 = .ok (.bipush 98, 2) := by decide +kernel
theorem dX6_readSundays_81 : decode cX6_readSundays 81 = .ok (.if_icmp .ne 9, 3) := by decide +kernel
theorem dX6_readSundays_84 : decode cX6_readSundays 84 = .ok (.iconst 1, 1) := by decide +kernel
theorem dX6_readSundays_85 : decode cX6_readSundays 85 = .ok (.iload_n 1, 1) := by decide +kernel
theorem dX6_readSundays_86 : decode cX6_readSundays 86 = .ok (.ishl, 1) := by decide +kernel
theorem dX6_readSundays_87 : decode cX6_readSundays 87 = .ok (.goto 4, 3) := by decide +kernel
theorem dX6_readSundays_90 : decode cX6_readSundays 90 = .ok (.iconst 0, 1) := by decide +kernel
theorem dX6_readSundays_91 : decode cX6_readSundays 91 = .ok (.ior, 1) := by decide +kernel
theorem dX6_readSundays_92 : decode cX6_readSundays 92 = .ok (.putfield 123, 3) := by decide +kernel
theorem dX6_readSundays_95 : decode cX6_readSundays 95 = .ok (.aload_n 0, 1) := by decide +kernel
theorem dX6_readSundays_96 : decode cX6_readSundays 96 = .ok (.dup, 1) := by decide +kernel
theorem dX6_readSundays_97 : decode cX6_readSundays 97 = .ok (.getfield 126, 3) := by decide +kernel
theorem dX6_readSundays_100 : decode cX6_readSundays 100 = .ok (.iload_n 2, 1) := by decide +kernel
theorem dX6_readSundays_101 : decode cX6_readSundays 101 = .ok (.bipush 104, 2) := by decide +kernel
theorem dX6_readSundays_103 : decode cX6_readSundays 103 = .ok (.if_icmp .eq 9, 3) := by decide +kernel
theorem dX6_readSundays_106 : decode cX6_readSundays 106 = .ok (.iload_n 2, 1) := by decide +kernel
theorem dX6_readSundays_107 : decode cX6_readSundays 107 = .ok (.bipush 98, 2) := by decide +kernel
theorem dX6_readSundays_109 : decode cX6_readSundays 109 = .ok (.if_icmp .ne 9, 3) := by decide +kernel
theorem dX6_readSundays_112 : decode cX6_readSundays 112 = .ok (.iconst 1, 1) := by decide +kernel
theorem dX6_readSundays_113 : decode cX6_readSundays 113 = .ok (.iload_n 1, 1) := by decide +kernel
theorem dX6_readSundays_114 : decode cX6_readSundays 114 = .ok (.ishl, 1) := by decide +kernel
theorem dX6_readSundays_115 : decode cX6_readSundays 115 = .ok (.goto 4, 3) := by decide +kernel
theorem dX6_readSundays_118 : decode cX6_readSundays 118 = .ok (.iconst 0, 1) := by decide +kernel
theorem dX6_readSundays_119 : decode cX6_readSundays 119 = .ok (.ior, 1) := by decide +kernel
theorem dX6_readSundays_120 : decode cX6_readSundays 120 = .ok (.putfield 126, 3) := by decide +kernel
theorem dX6_readSundays_123 : decode cX6_readSundays 123 = .ok (.iinc 1 1, 3) := by decide +kernel
theorem dX6_readSundays_126 : decode cX6_readSundays 126 = .ok (.goto (-114), 3) := by decide +kernel
theorem dX6_readSundays_129 : decode cX6_readSundays 129 = .ok (.return_, 1) := by decide +kernel
theorem dX6_readPeople_0 : decode cX6_readPeople 0 = .ok (.iconst 0, 1) := by decide +kernel
theorem dX6_readPeople_1 : decode cX6_readPeople 1 = .ok (.istore_n 1, 1) := by decide +kernel
theorem dX6_readPeople_2 : decode cX6_readPeople 2 = .ok (.aload_n 0, 1) := by decide +kernel
theorem dX6_readPeople_3 : decode cX6_readPeople 3 = .ok (.getfield 112, 3) := by decide +kernel
theorem dX6_readPeople_6 : decode cX6_readPeople 6 = .ok (.ifCond .ne 260, 3) := by decide +kernel
theorem dX6_readPeople_9 : decode cX6_readPeople 9 = .ok (.iload_n 1, 1) := by decide +kernel
theorem dX6_readPeople_10 : decode cX6_readPeople 10 = .ok (.ifCond .eq 12, 3) := by decide +kernel
theorem dX6_readPeople_13 : decode cX6_readPeople 13 = .ok (.aload_n 0, 1) := by decide +kernel
theorem dX6_readPeople_14 : decode cX6_readPeople 14 = .ok (.invokevirtual 116, 3) := by decide +kernel
theorem dX6_readPeople_17 : decode cX6_readPeople 17 = .ok (.bipush 44, 2) := by decide +kernel
theorem dX6_readPeople_19 : decode cX6_readPeople 19 = .ok (.if_icmp .ne 247, 3) := by decide +kernel
theorem dX6_readPeople_22 : decode cX6_readPeople 22 = .ok (.iload_n 1, 1) := by decide +kernel
theorem dX6_readPeople_23 : decode cX6_readPeople 23 = .ok (.ifCond .le 18, 3) := by decide +kernel
theorem dX6_readPeople_26 : decode cX6_readPeople 26 = .ok (.aload_n 0, 1) := by decide +kernel
theorem dX6_readPeople_27 : decode cX6_readPeople 27 = .ok (.iload_n 1, 1) := by decide +kernel
theorem dX6_readPeople_28 : decode cX6_readPeople 28 = .ok (.bipush 6, 2) := by decide +kernel
theorem dX6_readPeople_30 : decode cX6_readPeople 30 = .ok (.if_icmp .ge 7, 3) := by decide +kernel
theorem dX6_readPeople_33 : decode cX6_readPeople 33 = .ok (.iconst 1, 1) := by decide +kernel
theorem dX6_readPeople_34 : decode cX6_readPeople 34 = .ok (.goto 4, 3) := by decide +kernel
theorem dX6_readPeople_37 : decode cX6_readPeople 37 = .ok (.iconst 0, 1) := by decide +kernel
theorem dX6_readPeople_38 : decode cX6_readPeople 38 = .ok (.invokevirtual 129, 3) := by decide +kernel
theorem dX6_readPeople_41 : decode cX6_readPeople 41 = .ok (.aload_n 0, 1) := by decide +kernel
theorem dX6_readPeople_42 : decode cX6_readPeople 42 = .ok (.getfield 112, 3) := by decide +kernel
theorem dX6_readPeople_45 : decode cX6_readPeople 45 = .ok (.ifCond .eq 7, 3) := by decide +kernel
theorem dX6_readPeople_48 : decode cX6_readPeople 48 = .ok (.iconst 0, 1) := by decide +kernel
theorem dX6_readPeople_49 : decode cX6_readPeople 49 = .ok (.goto 7, 3) := by decide +kernel
theorem dX6_readPeople_52 : decode cX6_readPeople 52 = .ok (.aload_n 0, 1) := by decide +kernel
theorem dX6_readPeople_53 : decode cX6_readPeople 53 = .ok (.invokevirtual 116, 3) := by decide +kernel
theorem dX6_readPeople_56 : decode cX6_readPeople 56 = .ok (.istore_n 2, 1) := by decide +kernel
theorem dX6_readPeople_57 : decode cX6_readPeople 57 = .ok (.iload_n 2, 1) := by decide +kernel
theorem dX6_readPeople_58 : decode cX6_readPeople 58 = .ok (.bipush 112, 2) := by decide +kernel
theorem dX6_readPeople_60 : decode cX6_readPeople 60 = .ok (.if_icmp .ne 7, 3) := by decide +kernel
theorem dX6_readPeople_63 : decode cX6_readPeople 63 = .ok (.iconst 0, 1) := by decide +kernel
theorem dX6_readPeople_64 : decode cX6_readPeople 64 = .ok (.goto 44, 3) := by decide +kernel
theorem dX6_readPeople_67 : decode cX6_readPeople 67 = .ok (.iload_n 2, 1) := by decide +kernel
theorem dX6_readPeople_68 : decode cX6_readPeople 68 = .ok (.bipush 102, 2) := by decide +kernel
theorem dX6_readPeople_70 : decode cX6_readPeople 70 = .ok (.if_icmp .ne 7, 3) := by decide +kernel
theorem dX6_readPeople_73 : decode cX6_readPeople 73 = .ok (.iconst 1, 1) := by decide +kernel
theorem dX6_readPeople_74 : decode cX6_readPeople 74 = .ok (.goto 34, 3) := by decide +kernel
theorem dX6_readPeople_77 : decode cX6_readPeople 77 = .ok (.iload_n 2, 1) := by decide +kernel
theorem dX6_readPeople_78 : decode cX6_readPeople 78 = .ok (.bipush 111, 2) := by decide +kernel
theorem dX6_readPeople_80 : decode cX6_readPeople 80 = .ok (.if_icmp .ne 7, 3) := by decide +kernel
theorem dX6_readPeople_83 : decode cX6_readPeople 83 = .ok (.iconst 2, 1) := by decide +kernel
theorem dX6_readPeople_84 : decode cX6_readPeople 84 = .ok (.goto 24, 3) := by decide +kernel
theorem dX6_readPeople_87 : decode cX6_readPeople 87 = .ok (.iload_n 2, 1) := by decide +kernel
theorem dX6_readPeople_88 : decode cX6_readPeople 88 = .ok (.bipush 108, 2) := by decide +kernel
theorem dX6_readPeople_90 : decode cX6_readPeople 90 = .ok (.if_icmp .ne 7, 3) := by decide +kernel
theorem dX6_readPeople_93 : decode cX6_readPeople 93 = .ok (.iconst 3, 1) := by decide +kernel
theorem dX6_readPeople_94 : decode cX6_readPeople 94 = .ok (.goto 14, 3) := by decide +kernel
theorem dX6_readPeople_97 : decode cX6_readPeople 97 = .ok (.iload_n 2, 1) := by decide +kernel
theorem dX6_readPeople_98 : decode cX6_readPeople 98 = .ok (.bipush 114, 2) := by decide +kernel
theorem dX6_readPeople_100 : decode cX6_readPeople 100 = .ok (.if_icmp .ne 7, 3) := by decide +kernel
theorem dX6_readPeople_103 : decode cX6_readPeople 103 = .ok (.iconst 4, 1) := by decide +kernel
theorem dX6_readPeople_104 : decode cX6_readPeople 104 = .ok (.goto 4, 3) := by decide +kernel
theorem dX6_readPeople_107 : decode cX6_readPeople 107 = .ok (.iconst (-1), 1) := by decide +kernel
theorem dX6_readPeople_108 : decode cX6_readPeople 108 = .ok (.istore_n 3, 1) := by decide +kernel
theorem dX6_readPeople_109 : decode cX6_readPeople 109 = .ok (.aload_n 0, 1) := by decide +kernel
theorem dX6_readPeople_110 : decode cX6_readPeople 110 = .ok (.iload_n 3, 1) := by decide +kernel
theorem dX6_readPeople_111 : decode cX6_readPeople 111 = .ok (.ifCond .lt 7, 3) := by decide +kernel
theorem dX6_readPeople_114 : decode cX6_readPeople 114 = .ok (.iconst 1, 1) := by decide +kernel
theorem dX6_readPeople_115 : decode cX6_readPeople 115 = .ok (.goto 4, 3) := by decide +kernel
theorem dX6_readPeople_118 : decode cX6_readPeople 118 = .ok (.iconst 0, 1) := by decide +kernel
theorem dX6_readPeople_119 : decode cX6_readPeople 119 = .ok (.invokevirtual 129, 3) := by decide +kernel
theorem dX6_readPeople_122 : decode cX6_readPeople 122 = .ok (.aload_n 0, 1) := by decide +kernel
theorem dX6_readPeople_123 : decode cX6_readPeople 123 = .ok (.invokevirtual 133, 3) := by decide +kernel
theorem dX6_readPeople_126 : decode cX6_readPeople 126 = .ok (.istore 4, 2) := by decide +kernel
theorem dX6_readPeople_128 : decode cX6_readPeople 128 = .ok (.iload_n 1, 1) := by decide +kernel
theorem dX6_readPeople_129 : decode cX6_readPeople 129 = .ok (.istore 5, 2) := by decide +kernel
theorem dX6_readPeople_131 : decode cX6_readPeople 131 = .ok (.aload_n 0, 1) := by decide +kernel
theorem dX6_readPeople_132 : decode cX6_readPeople 132 = .ok (.getfield 112, 3) := by decide +kernel
theorem dX6_readPeople_135 : decode cX6_readPeople 135 = .ok (.ifCond .ne 45, 3) := by decide +kernel
theorem dX6_readPeople_138 : decode cX6_readPeople 138 = .ok (.aload_n 0, 1) := by decide +kernel
theorem dX6_readPeople_139 : decode cX6_readPeople 139 = .ok (.invokevirtual 116, 3) := by decide +kernel
theorem dX6_readPeople_142 : decode cX6_readPeople 142 = .ok (.bipush 62, 2) := by decide +kernel
theorem dX6_readPeople_144 : decode cX6_readPeople 144 = .ok (.if_icmp .ne 36, 3) := by decide +kernel
theorem dX6_readPeople_147 : decode cX6_readPeople 147 = .ok (.aload_n 0, 1) := by decide +kernel
theorem dX6_readPeople_148 : decode cX6_readPeople 148 = .ok (.dup, 1) := by decide +kernel
theorem dX6_readPeople_149 : decode cX6_readPeople 149 = .ok (.getfield 109, 3) := by decide +kernel
theorem dX6_readPeople_152 : decode cX6_readPeople 152 = .ok (.iconst 1, 1) := by decide +kernel
theorem dX6_readPeople_153 : decode cX6_readPeople 153 = .ok (.iadd, 1) := by decide +kernel
theorem dX6_readPeople_154 : decode cX6_readPeople 154 = .ok (.putfield 109, 3) := by decide +kernel
theorem dX6_readPeople_157 : decode cX6_readPeople 157 = .ok (.aload_n 0, 1) := by decide +kernel
theorem dX6_readPeople_158 : decode cX6_readPeople 158 = .ok (.invokevirtual 116, 3) := by decide +kernel
theorem dX6_readPeople_161 : decode cX6_readPeople 161 = .ok (.bipush 48, 2) := by decide +kernel
theorem dX6_readPeople_163 : decode cX6_readPeople 163 = .ok (.isub, 1) := by decide +kernel
theorem dX6_readPeople_164 : decode cX6_readPeople 164 = .ok (.istore 5, 2) := by decide +kernel
theorem dX6_readPeople_166 : decode cX6_readPeople 166 = .ok (.aload_n 0, 1) := by decide +kernel
theorem dX6_readPeople_167 : decode cX6_readPeople 167 = .ok (.iload 5, 2) := by decide +kernel
theorem dX6_readPeople_169 : decode cX6_readPeople 169 = .ok (.i2l, 1) := by decide +kernel
theorem dX6_readPeople_170 : decode cX6_readPeople 170 = .ok (.lconst 0, 1) := by decide +kernel
theorem dX6_readPeople_171 : decode cX6_readPeople 171 = .ok (.ldc2_w 84, 3) := by decide +kernel
theorem dX6_readPeople_174 : decode cX6_readPeople 174 = .ok (.invokestatic 41, 3) := by decide +kernel
theorem dX6_readPeople_177 : decode cX6_readPeople 177 = .ok (.invokevirtual 129, 3) := by decide +kernel
theorem dX6_readPeople_180 : decode cX6_readPeople 180 = .ok (.aload_n 0, 1) := by decide +kernel
theorem dX6_readPeople_181 : decode cX6_readPeople 181 = .ok (.bipush 45, 2) := by decide +kernel
theorem dX6_readPeople_183 : decode cX6_readPeople 183 = .ok (.invokevirtual 136, 3) := by decide +kernel
theorem dX6_readPeople_186 : decode cX6_readPeople 186 = .ok (.istore 6, 2) := by decide +kernel
theorem dX6_readPeople_188 : decode cX6_readPeople 188 = .ok (.aload_n 0, 1) := by decide +kernel
theorem dX6_readPeople_189 : decode cX6_readPeople 189 = .ok (.bipush 43, 2) := by decide +kernel
theorem dX6_readPeople_191 : decode cX6_readPeople 191 = .ok (.invokevirtual 136, 3) := by decide +kernel
theorem dX6_readPeople_194 : decode cX6_readPeople 194 = .ok (.istore 7, 2) := by decide +kernel
theorem dX6_readPeople_196 : decode cX6_readPeople 196 = .ok (.aload_n 0, 1) := by decide +kernel
theorem dX6_readPeople_197 : decode cX6_readPeople 197 = .ok (.getfield 112, 3) := by decide +kernel
theorem dX6_readPeople_200 : decode cX6_readPeople 200 = .ok (.ifCond .ne 60, 3) := by decide +kernel
theorem dX6_readPeople_203 : decode cX6_readPeople 203 = .ok (.aload_n 0, 1) := by decide +kernel
theorem dX6_readPeople_204 : decode cX6_readPeople 204 = .ok (.getfield 16, 3) := by decide +kernel
theorem dX6_readPeople_207 : decode cX6_readPeople 207 = .ok (.iconst 5, 1) := by decide +kernel
theorem dX6_readPeople_208 : decode cX6_readPeople 208 = .ok (.iload_n 1, 1) := by decide +kernel
theorem dX6_readPeople_209 : decode cX6_readPeople 209 = .ok (.imul, 1) := by decide +kernel
theorem dX6_readPeople_210 : decode cX6_readPeople 210 = .ok (.iload_n 3, 1) := by decide +kernel
theorem dX6_readPeople_211 : decode cX6_readPeople 211 = .ok (.iastore, 1) := by decide +kernel
theorem dX6_readPeople_212 : decode cX6_readPeople 212 = .ok (.aload_n 0, 1) := by decide +kernel
theorem dX6_readPeople_213 : decode cX6_readPeople 213 = .ok (.getfield 16, 3) := by decide +kernel
theorem dX6_readPeople_216 : decode cX6_readPeople 216 = .ok (.iconst 5, 1) := by decide +kernel
theorem dX6_readPeople_217 : decode cX6_readPeople 217 = .ok (.iload_n 1, 1) := by decide +kernel
theorem dX6_readPeople_218 : decode cX6_readPeople 218 = .ok (.imul, 1) := by decide +kernel
theorem dX6_readPeople_219 : decode cX6_readPeople 219 = .ok (.iconst 1, 1) := by decide +kernel
theorem dX6_readPeople_220 : decode cX6_readPeople 220 = .ok (.iadd, 1) := by decide +kernel
theorem dX6_readPeople_221 : decode cX6_readPeople 221 = .ok (.iload 5, 2) := by decide +kernel
theorem dX6_readPeople_223 : decode cX6_readPeople 223 = .ok (.iastore, 1) := by decide +kernel
theorem dX6_readPeople_224 : decode cX6_readPeople 224 = .ok (.aload_n 0, 1) := by decide +kernel
theorem dX6_readPeople_225 : decode cX6_readPeople 225 = .ok (.getfield 16, 3) := by decide +kernel
theorem dX6_readPeople_228 : decode cX6_readPeople 228 = .ok (.iconst 5, 1) := by decide +kernel
theorem dX6_readPeople_229 : decode cX6_readPeople 229 = .ok (.iload_n 1, 1) := by decide +kernel
theorem dX6_readPeople_230 : decode cX6_readPeople 230 = .ok (.imul, 1) := by decide +kernel
theorem dX6_readPeople_231 : decode cX6_readPeople 231 = .ok (.iconst 2, 1) := by decide +kernel
theorem dX6_readPeople_232 : decode cX6_readPeople 232 = .ok (.iadd, 1) := by decide +kernel
theorem dX6_readPeople_233 : decode cX6_readPeople 233 = .ok (.iload 4, 2) := by decide +kernel
theorem dX6_readPeople_235 : decode cX6_readPeople 235 = .ok (.iastore, 1) := by decide +kernel
theorem dX6_readPeople_236 : decode cX6_readPeople 236 = .ok (.aload_n 0, 1) := by decide +kernel
theorem dX6_readPeople_237 : decode cX6_readPeople 237 = .ok (.getfield 16, 3) := by decide +kernel
theorem dX6_readPeople_240 : decode cX6_readPeople 240 = .ok (.iconst 5, 1) := by decide +kernel
theorem dX6_readPeople_241 : decode cX6_readPeople 241 = .ok (.iload_n 1, 1) := by decide +kernel
theorem dX6_readPeople_242 : decode cX6_readPeople 242 = .ok (.imul, 1) := by decide +kernel
theorem dX6_readPeople_243 : decode cX6_readPeople 243 = .ok (.iconst 3, 1) := by decide +kernel
theorem dX6_readPeople_244 : decode cX6_readPeople 244 = .ok (.iadd, 1) := by decide +kernel
theorem dX6_readPeople_245 : decode cX6_readPeople 245 = .ok (.iload 6, 2) := by decide +kernel
theorem dX6_readPeople_247 : decode cX6_readPeople 247 = .ok (.iastore, 1) := by decide +kernel
theorem dX6_readPeople_248 : decode cX6_readPeople 248 = .ok (.aload_n 0, 1) := by decide +kernel
theorem dX6_readPeople_249 : decode cX6_readPeople 249 = .ok (.getfield 16, 3) := by decide +kernel
theorem dX6_readPeople_252 : decode cX6_readPeople 252 = .ok (.iconst 5, 1) := by decide +kernel
theorem dX6_readPeople_253 : decode cX6_readPeople 253 = .ok (.iload_n 1, 1) := by decide +kernel
theorem dX6_readPeople_254 : decode cX6_readPeople 254 = .ok (.imul, 1) := by decide +kernel
theorem dX6_readPeople_255 : decode cX6_readPeople 255 = .ok (.iconst 4, 1) := by decide +kernel
theorem dX6_readPeople_256 : decode cX6_readPeople 256 = .ok (.iadd, 1) := by decide +kernel
theorem dX6_readPeople_257 : decode cX6_readPeople 257 = .ok (.iload 7, 2) := by decide +kernel
theorem dX6_readPeople_259 : decode cX6_readPeople 259 = .ok (.iastore, 1) := by decide +kernel
theorem dX6_readPeople_260 : decode cX6_readPeople 260 = .ok (.iinc 1 1, 3) := by decide +kernel
theorem dX6_readPeople_263 : decode cX6_readPeople 263 = .ok (.goto (-261), 3) := by decide +kernel
theorem dX6_readPeople_266 : decode cX6_readPeople 266 = .ok (.iload_n 1, 1) := by decide +kernel
theorem dX6_readPeople_267 : decode cX6_readPeople 267 = .ok (.ireturn, 1) := by decide +kernel
theorem dX6_areThere_0 : decode cX6_areThere 0 = .ok (.iconst 1, 1) := by decide +kernel
theorem dX6_areThere_1 : decode cX6_areThere 1 = .ok (.istore_n 2, 1) := by decide +kernel
theorem dX6_areThere_2 : decode cX6_areThere 2 = .ok (.iconst 0, 1) := by decide +kernel
theorem dX6_areThere_3 : decode cX6_areThere 3 = .ok (.istore_n 3, 1) := by decide +kernel
theorem dX6_areThere_4 : decode cX6_areThere 4 = .ok (.iload_n 3, 1) := by decide +kernel
theorem dX6_areThere_5 : decode cX6_areThere 5 = .ok (.iload_n 1, 1) := by decide +kernel
theorem dX6_areThere_6 : decode cX6_areThere 6 = .ok (.if_icmp .ge 33, 3) := by decide +kernel
theorem dX6_areThere_9 : decode cX6_areThere 9 = .ok (.iload_n 2, 1) := by decide +kernel
theorem dX6_areThere_10 : decode cX6_areThere 10 = .ok (.ifCond .eq 21, 3) := by decide +kernel
theorem dX6_areThere_13 : decode cX6_areThere 13 = .ok (.aload_n 0, 1) := by decide +kernel
theorem dX6_areThere_14 : decode cX6_areThere 14 = .ok (.getfield 16, 3) := by decide +kernel
theorem dX6_areThere_17 : decode cX6_areThere 17 = .ok (.iconst 5, 1) := by decide +kernel
theorem dX6_areThere_18 : decode cX6_areThere 18 = .ok (.iload_n 3, 1) := by decide +kernel
theorem dX6_areThere_19 : decode cX6_areThere 19 = .ok (.imul, 1) := by decide +kernel
theorem dX6_areThere_20 : decode cX6_areThere 20 = .ok (.iconst 1, 1) := by decide +kernel
theorem dX6_areThere_21 : decode cX6_areThere 21 = .ok (.iadd, 1) := by decide +kernel
theorem dX6_areThere_22 : decode cX6_areThere 22 = .ok (.iaload, 1) := by decide +kernel
theorem dX6_areThere_23 : decode cX6_areThere 23 = .ok (.iload_n 1, 1) := by decide +kernel
theorem dX6_areThere_24 : decode cX6_areThere 24 = .ok (.if_icmp .ge 7, 3) := by decide +kernel
theorem dX6_areThere_27 : decode cX6_areThere 27 = .ok (.iconst 1, 1) := by decide +kernel
theorem dX6_areThere_28 : decode cX6_areThere 28 = .ok (.goto 4, 3) := by decide +kernel
theorem dX6_areThere_31 : decode cX6_areThere 31 = .ok (.iconst 0, 1) := by decide +kernel
theorem dX6_areThere_32 : decode cX6_areThere 32 = .ok (.istore_n 2, 1) := by decide +kernel
theorem dX6_areThere_33 : decode cX6_areThere 33 = .ok (.iinc 3 1, 3) := by decide +kernel
theorem dX6_areThere_36 : decode cX6_areThere 36 = .ok (.goto (-32), 3) := by decide +kernel
theorem dX6_areThere_39 : decode cX6_areThere 39 = .ok (.iload_n 2, 1) := by decide +kernel
theorem dX6_areThere_40 : decode cX6_areThere 40 = .ok (.ireturn, 1) := by decide +kernel
theorem dX6_read_0 : decode cX6_read 0 = .ok (.aload_n 0, 1) := by decide +kernel
theorem dX6_read_1 : decode cX6_read 1 = .ok (.iconst 0, 1) := by decide +kernel
theorem dX6_read_2 : decode cX6_read 2 = .ok (.putfield 109, 3) := by decide +kernel
theorem dX6_read_5 : decode cX6_read 5 = .ok (.aload_n 0, 1) := by decide +kernel
theorem dX6_read_6 : decode cX6_read 6 = .ok (.iconst 0, 1) := by decide +kernel
theorem dX6_read_7 : decode cX6_read 7 = .ok (.putfield 112, 3) := by decide +kernel
theorem dX6_read_10 : decode cX6_read 10 = .ok (.aload_n 0, 1) := by decide +kernel
theorem dX6_read_11 : decode cX6_read 11 = .ok (.invokevirtual 139, 3) := by decide +kernel
theorem dX6_read_14 : decode cX6_read 14 = .ok (.aload_n 0, 1) := by decide +kernel
theorem dX6_read_15 : decode cX6_read 15 = .ok (.aload_n 0, 1) := by decide +kernel
theorem dX6_read_16 : decode cX6_read 16 = .ok (.getfield 112, 3) := by decide +kernel
theorem dX6_read_19 : decode cX6_read 19 = .ok (.ifCond .ne 16, 3) := by decide +kernel
theorem dX6_read_22 : decode cX6_read 22 = .ok (.aload_n 0, 1) := by decide +kernel
theorem dX6_read_23 : decode cX6_read 23 = .ok (.invokevirtual 116, 3) := by decide +kernel
theorem dX6_read_26 : decode cX6_read 26 = .ok (.bipush 59, 2) := by decide +kernel
theorem dX6_read_28 : decode cX6_read 28 = .ok (.if_icmp .ne 7, 3) := by decide +kernel
theorem dX6_read_31 : decode cX6_read 31 = .ok (.iconst 1, 1) := by decide +kernel
theorem dX6_read_32 : decode cX6_read 32 = .ok (.goto 4, 3) := by decide +kernel
theorem dX6_read_35 : decode cX6_read 35 = .ok (.iconst 0, 1) := by decide +kernel
theorem dX6_read_36 : decode cX6_read 36 = .ok (.invokevirtual 129, 3) := by decide +kernel
theorem dX6_read_39 : decode cX6_read 39 = .ok (.aload_n 0, 1) := by decide +kernel
theorem dX6_read_40 : decode cX6_read 40 = .ok (.invokevirtual 142, 3) := by decide +kernel
theorem dX6_read_43 : decode cX6_read 43 = .ok (.istore_n 1, 1) := by decide +kernel
theorem dX6_read_44 : decode cX6_read 44 = .ok (.aload_n 0, 1) := by decide +kernel
theorem dX6_read_45 : decode cX6_read 45 = .ok (.aload_n 0, 1) := by decide +kernel
theorem dX6_read_46 : decode cX6_read 46 = .ok (.getfield 112, 3) := by decide +kernel
theorem dX6_read_49 : decode cX6_read 49 = .ok (.ifCond .ne 10, 3) := by decide +kernel
theorem dX6_read_52 : decode cX6_read 52 = .ok (.aload_n 0, 1) := by decide +kernel
theorem dX6_read_53 : decode cX6_read 53 = .ok (.invokevirtual 116, 3) := by decide +kernel
theorem dX6_read_56 : decode cX6_read 56 = .ok (.ifCond .eq 7, 3) := by decide +kernel
theorem dX6_read_59 : decode cX6_read 59 = .ok (.iconst 1, 1) := by decide +kernel
theorem dX6_read_60 : decode cX6_read 60 = .ok (.goto 4, 3) := by decide +kernel
theorem dX6_read_63 : decode cX6_read 63 = .ok (.iconst 0, 1) := by decide +kernel
theorem dX6_read_64 : decode cX6_read 64 = .ok (.putfield 112, 3) := by decide +kernel
theorem dX6_read_67 : decode cX6_read 67 = .ok (.aload_n 0, 1) := by decide +kernel
theorem dX6_read_68 : decode cX6_read 68 = .ok (.getfield 112, 3) := by decide +kernel
theorem dX6_read_71 : decode cX6_read 71 = .ok (.ifCond .ne 24, 3) := by decide +kernel
theorem dX6_read_74 : decode cX6_read 74 = .ok (.aload_n 0, 1) := by decide +kernel
theorem dX6_read_75 : decode cX6_read 75 = .ok (.iload_n 1, 1) := by decide +kernel
theorem dX6_read_76 : decode cX6_read 76 = .ok (.invokevirtual 145, 3) := by decide +kernel
theorem dX6_read_79 : decode cX6_read 79 = .ok (.ifCond .ne 16, 3) := by decide +kernel
theorem dX6_read_82 : decode cX6_read 82 = .ok (.aload_n 0, 1) := by decide +kernel
theorem dX6_read_83 : decode cX6_read 83 = .ok (.iconst 1, 1) := by decide +kernel
theorem dX6_read_84 : decode cX6_read 84 = .ok (.putfield 112, 3) := by decide +kernel
theorem dX6_read_87 : decode cX6_read 87 = .ok (.aload_n 0, 1) := by decide +kernel
theorem dX6_read_88 : decode cX6_read 88 = .ok (.aload_n 0, 1) := by decide +kernel
theorem dX6_read_89 : decode cX6_read 89 = .ok (.getfield 106, 3) := by decide +kernel
theorem dX6_read_92 : decode cX6_read 92 = .ok (.putfield 109, 3) := by decide +kernel
theorem dX6_read_95 : decode cX6_read 95 = .ok (.aload_n 0, 1) := by decide +kernel
theorem dX6_read_96 : decode cX6_read 96 = .ok (.iconst 0, 1) := by decide +kernel
theorem dX6_read_97 : decode cX6_read 97 = .ok (.putfield 106, 3) := by decide +kernel
theorem dX6_read_100 : decode cX6_read 100 = .ok (.aload_n 0, 1) := by decide +kernel
theorem dX6_read_101 : decode cX6_read 101 = .ok (.getfield 112, 3) := by decide +kernel
theorem dX6_read_104 : decode cX6_read 104 = .ok (.ifCond .eq 11, 3) := by decide +kernel
theorem dX6_read_107 : decode cX6_read 107 = .ok (.bipush (-20), 2) := by decide +kernel
theorem dX6_read_109 : decode cX6_read 109 = .ok (.aload_n 0, 1) := by decide +kernel
theorem dX6_read_110 : decode cX6_read 110 = .ok (.getfield 109, 3) := by decide +kernel
theorem dX6_read_113 : decode cX6_read 113 = .ok (.isub, 1) := by decide +kernel
theorem dX6_read_114 : decode cX6_read 114 = .ok (.ireturn, 1) := by decide +kernel
theorem dX6_read_115 : decode cX6_read 115 = .ok (.aload_n 0, 1) := by decide +kernel
theorem dX6_read_116 : decode cX6_read 116 = .ok (.getfield 7, 3) := by decide +kernel
theorem dX6_read_119 : decode cX6_read 119 = .ok (.iconst 0, 1) := by decide +kernel
theorem dX6_read_120 : decode cX6_read 120 = .ok (.iconst 0, 1) := by decide +kernel
theorem dX6_read_121 : decode cX6_read 121 = .ok (.iastore, 1) := by decide +kernel
theorem dX6_read_122 : decode cX6_read 122 = .ok (.aload_n 0, 1) := by decide +kernel
theorem dX6_read_123 : decode cX6_read 123 = .ok (.getfield 7, 3) := by decide +kernel
theorem dX6_read_126 : decode cX6_read 126 = .ok (.iconst 2, 1) := by decide +kernel
theorem dX6_read_127 : decode cX6_read 127 = .ok (.aload_n 0, 1) := by decide +kernel
theorem dX6_read_128 : decode cX6_read 128 = .ok (.getfield 123, 3) := by decide +kernel
theorem dX6_read_131 : decode cX6_read 131 = .ok (.iastore, 1) := by decide +kernel
theorem dX6_read_132 : decode cX6_read 132 = .ok (.aload_n 0, 1) := by decide +kernel
theorem dX6_read_133 : decode cX6_read 133 = .ok (.getfield 7, 3) := by decide +kernel
theorem dX6_read_136 : decode cX6_read 136 = .ok (.iconst 3, 1) := by decide +kernel
theorem dX6_read_137 : decode cX6_read 137 = .ok (.aload_n 0, 1) := by decide +kernel
theorem dX6_read_138 : decode cX6_read 138 = .ok (.getfield 126, 3) := by decide +kernel
theorem dX6_read_141 : decode cX6_read 141 = .ok (.iastore, 1) := by decide +kernel
theorem dX6_read_142 : decode cX6_read 142 = .ok (.iconst 0, 1) := by decide +kernel
theorem dX6_read_143 : decode cX6_read 143 = .ok (.istore_n 2, 1) := by decide +kernel
theorem dX6_read_144 : decode cX6_read 144 = .ok (.iload_n 2, 1) := by decide +kernel
theorem dX6_read_145 : decode cX6_read 145 = .ok (.iload_n 1, 1) := by decide +kernel
theorem dX6_read_146 : decode cX6_read 146 = .ok (.if_icmp .ge 90, 3) := by decide +kernel
theorem dX6_read_149 : decode cX6_read 149 = .ok (.aload_n 0, 1) := by decide +kernel
theorem dX6_read_150 : decode cX6_read 150 = .ok (.aload_n 0, 1) := by decide +kernel
theorem dX6_read_151 : decode cX6_read 151 = .ok (.getfield 16, 3) := by decide +kernel
theorem dX6_read_154 : decode cX6_read 154 = .ok (.iconst 5, 1) := by decide +kernel
theorem dX6_read_155 : decode cX6_read 155 = .ok (.iload_n 2, 1) := by decide +kernel
theorem dX6_read_156 : decode cX6_read 156 = .ok (.imul, 1) := by decide +kernel
theorem dX6_read_157 : decode cX6_read 157 = .ok (.iaload, 1) := by decide +kernel
theorem dX6_read_158 : decode cX6_read 158 = .ok (.aload_n 0, 1) := by decide +kernel
theorem dX6_read_159 : decode cX6_read 159 = .ok (.getfield 16, 3) := by decide +kernel
theorem dX6_read_162 : decode cX6_read 162 = .ok (.iconst 5, 1) := by decide +kernel
theorem dX6_read_163 : decode cX6_read 163 = .ok (.iload_n 2, 1) := by decide +kernel
theorem dX6_read_164 : decode cX6_read 164 = .ok (.imul, 1) := by decide +kernel
theorem dX6_read_165 : decode cX6_read 165 = .ok (.iconst 1, 1) := by decide +kernel
theorem dX6_read_166 : decode cX6_read 166 = .ok (.iadd, 1) := by decide +kernel
theorem dX6_read_167 : decode cX6_read 167 = .ok (.iaload, 1) := by decide +kernel
theorem dX6_read_168 : decode cX6_read 168 = .ok (.aload_n 0, 1) := by decide +kernel
theorem dX6_read_169 : decode cX6_read 169 = .ok (.getfield 16, 3) := by decide +kernel
theorem dX6_read_172 : decode cX6_read 172 = .ok (.iconst 5, 1) := by decide +kernel
theorem dX6_read_173 : decode cX6_read 173 = .ok (.iload_n 2, 1) := by decide +kernel
theorem dX6_read_174 : decode cX6_read 174 = .ok (.imul, 1) := by decide +kernel
theorem dX6_read_175 : decode cX6_read 175 = .ok (.iconst 2, 1) := by decide +kernel
theorem dX6_read_176 : decode cX6_read 176 = .ok (.iadd, 1) := by decide +kernel
theorem dX6_read_177 : decode cX6_read 177 = .ok (.iaload, 1) := by decide +kernel
theorem dX6_read_178 : decode cX6_read 178 = .ok (.invokevirtual 74, 3) := by decide +kernel
theorem dX6_read_181 : decode cX6_read 181 = .ok (.iconst 0, 1) := by decide +kernel
theorem dX6_read_182 : decode cX6_read 182 = .ok (.istore_n 3, 1) := by decide +kernel
theorem dX6_read_183 : decode cX6_read 183 = .ok (.iload_n 3, 1) := by decide +kernel
theorem dX6_read_184 : decode cX6_read 184 = .ok (.bipush 12, 2) := by decide +kernel
theorem dX6_read_186 : decode cX6_read 186 = .ok (.if_icmp .ge 44, 3) := by decide +kernel
theorem dX6_read_189 : decode cX6_read 189 = .ok (.aload_n 0, 1) := by decide +kernel
theorem dX6_read_190 : decode cX6_read 190 = .ok (.iload_n 2, 1) := by decide +kernel
theorem dX6_read_191 : decode cX6_read 191 = .ok (.iload_n 3, 1) := by decide +kernel
theorem dX6_read_192 : decode cX6_read 192 = .ok (.aload_n 0, 1) := by decide +kernel
theorem dX6_read_193 : decode cX6_read 193 = .ok (.getfield 16, 3) := by decide +kernel
theorem dX6_read_196 : decode cX6_read 196 = .ok (.iconst 5, 1) := by decide +kernel
theorem dX6_read_197 : decode cX6_read 197 = .ok (.iload_n 2, 1) := by decide +kernel
theorem dX6_read_198 : decode cX6_read 198 = .ok (.imul, 1) := by decide +kernel
theorem dX6_read_199 : decode cX6_read 199 = .ok (.iconst 4, 1) := by decide +kernel
theorem dX6_read_200 : decode cX6_read 200 = .ok (.iadd, 1) := by decide +kernel
theorem dX6_read_201 : decode cX6_read 201 = .ok (.iaload, 1) := by decide +kernel
theorem dX6_read_202 : decode cX6_read 202 = .ok (.iload_n 3, 1) := by decide +kernel
theorem dX6_read_203 : decode cX6_read 203 = .ok (.ishr, 1) := by decide +kernel
theorem dX6_read_204 : decode cX6_read 204 = .ok (.iconst 1, 1) := by decide +kernel
theorem dX6_read_205 : decode cX6_read 205 = .ok (.iand, 1) := by decide +kernel
theorem dX6_read_206 : decode cX6_read 206 = .ok (.aload_n 0, 1) := by decide +kernel
theorem dX6_read_207 : decode cX6_read 207 = .ok (.getfield 16, 3) := by decide +kernel
theorem dX6_read_210 : decode cX6_read 210 = .ok (.iconst 5, 1) := by decide +kernel
theorem dX6_read_211 : decode cX6_read 211 = .ok (.iload_n 2, 1) := by decide +kernel
theorem dX6_read_212 : decode cX6_read 212 = .ok (.imul, 1) := by decide +kernel
theorem dX6_read_213 : decode cX6_read 213 = .ok (.iconst 3, 1) := by decide +kernel
theorem dX6_read_214 : decode cX6_read 214 = .ok (.iadd, 1) := by decide +kernel
theorem dX6_read_215 : decode cX6_read 215 = .ok (.iaload, 1) := by decide +kernel
theorem dX6_read_216 : decode cX6_read 216 = .ok (.iload_n 3, 1) := by decide +kernel
theorem dX6_read_217 : decode cX6_read 217 = .ok (.ishr, 1) := by decide +kernel
theorem dX6_read_218 : decode cX6_read 218 = .ok (.iconst 1, 1) := by decide +kernel
theorem dX6_read_219 : decode cX6_read 219 = .ok (.iand, 1) := by decide +kernel
theorem dX6_read_220 : decode cX6_read 220 = .ok (.isub, 1) := by decide +kernel
theorem dX6_read_221 : decode cX6_read 221 = .ok (.invokevirtual 148, 3) := by decide +kernel
theorem dX6_read_224 : decode cX6_read 224 = .ok (.iinc 3 1, 3) := by decide +kernel
theorem dX6_read_227 : decode cX6_read 227 = .ok (.goto (-44), 3) := by decide +kernel
theorem dX6_read_230 : decode cX6_read 230 = .ok (.iinc 2 1, 3) := by decide +kernel
theorem dX6_read_233 : decode cX6_read 233 = .ok (.goto (-89), 3) := by decide +kernel
theorem dX6_read_236 : decode cX6_read 236 = .ok (.iload_n 1, 1) := by decide +kernel
theorem dX6_read_237 : decode cX6_read 237 = .ok (.ireturn, 1) := by decide +kernel
theorem dX6_notes_0 : decode cX6_notes 0 = .ok (.aload_n 0, 1) := by decide +kernel
theorem dX6_notes_1 : decode cX6_notes 1 = .ok (.getfield 68, 3) := by decide +kernel
theorem dX6_notes_4 : decode cX6_notes 4 = .ok (.bipush 8, 2) := by decide +kernel
theorem dX6_notes_6 : decode cX6_notes 6 = .ok (.if_icmp .ne 40, 3) := by decide +kernel
theorem dX6_notes_9 : decode cX6_notes 9 = .ok (.bipush 81, 2) := by decide +kernel
theorem dX6_notes_11 : decode cX6_notes 11 = .ok (.istore_n 1, 1) := by decide +kernel
theorem dX6_notes_12 : decode cX6_notes 12 = .ok (.iload_n 1, 1) := by decide +kernel
theorem dX6_notes_13 : decode cX6_notes 13 = .ok (.sipush 648, 3) := by decide +kernel
theorem dX6_notes_16 : decode cX6_notes 16 = .ok (.if_icmp .ge 24, 3) := by decide +kernel
theorem dX6_notes_19 : decode cX6_notes 19 = .ok (.aload_n 0, 1) := by decide +kernel
theorem dX6_notes_20 : decode cX6_notes 20 = .ok (.getfield 19, 3) := by decide +kernel
theorem dX6_notes_23 : decode cX6_notes 23 = .ok (.iload_n 1, 1) := by decide +kernel
theorem dX6_notes_24 : decode cX6_notes 24 = .ok (.bipush 81, 2) := by decide +kernel
theorem dX6_notes_26 : decode cX6_notes 26 = .ok (.isub, 1) := by decide +kernel
theorem dX6_notes_27 : decode cX6_notes 27 = .ok (.aload_n 0, 1) := by decide +kernel
theorem dX6_notes_28 : decode cX6_notes 28 = .ok (.getfield 19, 3) := by decide +kernel
theorem dX6_notes_31 : decode cX6_notes 31 = .ok (.iload_n 1, 1) := by decide +kernel
theorem dX6_notes_32 : decode cX6_notes 32 = .ok (.iaload, 1) := by decide +kernel
theorem dX6_notes_33 : decode cX6_notes 33 = .ok (.iastore, 1) := by decide +kernel
theorem dX6_notes_34 : decode cX6_notes 34 = .ok (.iinc 1 1, 3) := by decide +kernel
theorem dX6_notes_37 : decode cX6_notes 37 = .ok (.goto (-25), 3) := by decide +kernel
theorem dX6_notes_40 : decode cX6_notes 40 = .ok (.aload_n 0, 1) := by decide +kernel
theorem dX6_notes_41 : decode cX6_notes 41 = .ok (.bipush 7, 2) := by decide +kernel
theorem dX6_notes_43 : decode cX6_notes 43 = .ok (.putfield 68, 3) := by decide +kernel
theorem dX6_notes_46 : decode cX6_notes 46 = .ok (.bipush 81, 2) := by decide +kernel
theorem dX6_notes_48 : decode cX6_notes 48 = .ok (.aload_n 0, 1) := by decide +kernel
theorem dX6_notes_49 : decode cX6_notes 49 = .ok (.getfield 68, 3) := by decide +kernel
theorem dX6_notes_52 : decode cX6_notes 52 = .ok (.imul, 1) := by decide +kernel
theorem dX6_notes_53 : decode cX6_notes 53 = .ok (.istore_n 1, 1) := by decide +kernel
theorem dX6_notes_54 : decode cX6_notes 54 = .ok (.iconst 0, 1) := by decide +kernel
theorem dX6_notes_55 : decode cX6_notes 55 = .ok (.istore_n 2, 1) := by decide +kernel
theorem dX6_notes_56 : decode cX6_notes 56 = .ok (.iload_n 2, 1) := by decide +kernel
theorem dX6_notes_57 : decode cX6_notes 57 = .ok (.iconst 3, 1) := by decide +kernel
theorem dX6_notes_58 : decode cX6_notes 58 = .ok (.if_icmp .ge 25, 3) := by decide +kernel
theorem dX6_notes_61 : decode cX6_notes 61 = .ok (.aload_n 0, 1) := by decide +kernel
theorem dX6_notes_62 : decode cX6_notes 62 = .ok (.getfield 19, 3) := by decide +kernel
theorem dX6_notes_65 : decode cX6_notes 65 = .ok (.iload_n 1, 1) := by decide +kernel
theorem dX6_notes_66 : decode cX6_notes 66 = .ok (.iload_n 2, 1) := by decide +kernel
theorem dX6_notes_67 : decode cX6_notes 67 = .ok (.iadd, 1) := by decide +kernel
theorem dX6_notes_68 : decode cX6_notes 68 = .ok (.aload_n 0, 1) := by decide +kernel
theorem dX6_notes_69 : decode cX6_notes 69 = .ok (.getfield 7, 3) := by decide +kernel
theorem dX6_notes_72 : decode cX6_notes 72 = .ok (.iconst 2, 1) := by decide +kernel
theorem dX6_notes_73 : decode cX6_notes 73 = .ok (.iload_n 2, 1) := by decide +kernel
theorem dX6_notes_74 : decode cX6_notes 74 = .ok (.iadd, 1) := by decide +kernel
theorem dX6_notes_75 : decode cX6_notes 75 = .ok (.iaload, 1) := by decide +kernel
theorem dX6_notes_76 : decode cX6_notes 76 = .ok (.iastore, 1) := by decide +kernel
theorem dX6_notes_77 : decode cX6_notes 77 = .ok (.iinc 2 1, 3) := by decide +kernel
theorem dX6_notes_80 : decode cX6_notes 80 = .ok (.goto (-24), 3) := by decide +kernel
theorem dX6_notes_83 : decode cX6_notes 83 = .ok (.iconst 0, 1) := by decide +kernel
theorem dX6_notes_84 : decode cX6_notes 84 = .ok (.istore_n 2, 1) := by decide +kernel
theorem dX6_notes_85 : decode cX6_notes 85 = .ok (.iload_n 2, 1) := by decide +kernel
theorem dX6_notes_86 : decode cX6_notes 86 = .ok (.bipush 6, 2) := by decide +kernel
theorem dX6_notes_88 : decode cX6_notes 88 = .ok (.if_icmp .ge 25, 3) := by decide +kernel
theorem dX6_notes_91 : decode cX6_notes 91 = .ok (.aload_n 0, 1) := by decide +kernel
theorem dX6_notes_92 : decode cX6_notes 92 = .ok (.getfield 19, 3) := by decide +kernel
theorem dX6_notes_95 : decode cX6_notes 95 = .ok (.iload_n 1, 1) := by decide +kernel
theorem dX6_notes_96 : decode cX6_notes 96 = .ok (.iconst 3, 1) := by decide +kernel
theorem dX6_notes_97 : decode cX6_notes 97 = .ok (.iadd, 1) := by decide +kernel
theorem dX6_notes_98 : decode cX6_notes 98 = .ok (.iload_n 2, 1) := by decide +kernel
theorem dX6_notes_99 : decode cX6_notes 99 = .ok (.iadd, 1) := by decide +kernel
theorem dX6_notes_100 : decode cX6_notes 100 = .ok (.aload_n 0, 1) := by decide +kernel
theorem dX6_notes_101 : decode cX6_notes 101 = .ok (.iload_n 2, 1) := by decide +kernel
theorem dX6_notes_102 : decode cX6_notes 102 = .ok (.iconst 2, 1) := by decide +kernel
theorem dX6_notes_103 : decode cX6_notes 103 = .ok (.invokevirtual 55, 3) := by decide +kernel
theorem dX6_notes_106 : decode cX6_notes 106 = .ok (.iastore, 1) := by decide +kernel
theorem dX6_notes_107 : decode cX6_notes 107 = .ok (.iinc 2 1, 3) := by decide +kernel
theorem dX6_notes_110 : decode cX6_notes 110 = .ok (.goto (-25), 3) := by decide +kernel
theorem dX6_notes_113 : decode cX6_notes 113 = .ok (.iconst 0, 1) := by decide +kernel
theorem dX6_notes_114 : decode cX6_notes 114 = .ok (.istore_n 2, 1) := by decide +kernel
theorem dX6_notes_115 : decode cX6_notes 115 = .ok (.iload_n 2, 1) := by decide +kernel
theorem dX6_notes_116 : decode cX6_notes 116 = .ok (.bipush 72, 2) := by decide +kernel
theorem dX6_notes_118 : decode cX6_notes 118 = .ok (.if_icmp .ge 29, 3) := by decide +kernel
theorem dX6_notes_121 : decode cX6_notes 121 = .ok (.aload_n 0, 1) := by decide +kernel
theorem dX6_notes_122 : decode cX6_notes 122 = .ok (.getfield 19, 3) := by decide +kernel
theorem dX6_notes_125 : decode cX6_notes 125 = .ok (.iload_n 1, 1) := by decide +kernel
theorem dX6_notes_126 : decode cX6_notes 126 = .ok (.bipush 9, 2) := by decide +kernel
theorem dX6_notes_128 : decode cX6_notes 128 = .ok (.iadd, 1) := by decide +kernel
theorem dX6_notes_129 : decode cX6_notes 129 = .ok (.iload_n 2, 1) := by decide +kernel
theorem dX6_notes_130 : decode cX6_notes 130 = .ok (.iadd, 1) := by decide +kernel
theorem dX6_notes_131 : decode cX6_notes 131 = .ok (.aload_n 0, 1) := by decide +kernel
theorem dX6_notes_132 : decode cX6_notes 132 = .ok (.getfield 7, 3) := by decide +kernel
theorem dX6_notes_135 : decode cX6_notes 135 = .ok (.bipush 23, 2) := by decide +kernel
theorem dX6_notes_137 : decode cX6_notes 137 = .ok (.iload_n 2, 1) := by decide +kernel
theorem dX6_notes_138 : decode cX6_notes 138 = .ok (.iadd, 1) := by decide +kernel
theorem dX6_notes_139 : decode cX6_notes 139 = .ok (.iaload, 1) := by decide +kernel
theorem dX6_notes_140 : decode cX6_notes 140 = .ok (.iastore, 1) := by decide +kernel
theorem dX6_notes_141 : decode cX6_notes 141 = .ok (.iinc 2 1, 3) := by decide +kernel
theorem dX6_notes_144 : decode cX6_notes 144 = .ok (.goto (-29), 3) := by decide +kernel
theorem dX6_notes_147 : decode cX6_notes 147 = .ok (.aload_n 0, 1) := by decide +kernel
theorem dX6_notes_148 : decode cX6_notes 148 = .ok (.dup, 1) := by decide +kernel
theorem dX6_notes_149 : decode cX6_notes 149 = .ok (.getfield 68, 3) := by decide +kernel
theorem dX6_notes_152 : decode cX6_notes 152 = .ok (.iconst 1, 1) := by decide +kernel
theorem dX6_notes_153 : decode cX6_notes 153 = .ok (.iadd, 1) := by decide +kernel
theorem dX6_notes_154 : decode cX6_notes 154 = .ok (.putfield 68, 3) := by decide +kernel
theorem dX6_notes_157 : decode cX6_notes 157 = .ok (.return_, 1) := by decide +kernel
theorem dX6_maySell_0 : decode cX6_maySell 0 = .ok (.aload_n 0, 1) := by decide +kernel
theorem dX6_maySell_1 : decode cX6_maySell 1 = .ok (.iload_n 1, 1) := by decide +kernel
theorem dX6_maySell_2 : decode cX6_maySell 2 = .ok (.iload_n 2, 1) := by decide +kernel
theorem dX6_maySell_3 : decode cX6_maySell 3 = .ok (.invokevirtual 51, 3) := by decide +kernel
theorem dX6_maySell_6 : decode cX6_maySell 6 = .ok (.ifCond .eq 34, 3) := by decide +kernel
theorem dX6_maySell_9 : decode cX6_maySell 9 = .ok (.aload_n 0, 1) := by decide +kernel
theorem dX6_maySell_10 : decode cX6_maySell 10 = .ok (.iload_n 1, 1) := by decide +kernel
theorem dX6_maySell_11 : decode cX6_maySell 11 = .ok (.invokevirtual 86, 3) := by decide +kernel
theorem dX6_maySell_14 : decode cX6_maySell 14 = .ok (.invokestatic 151, 3) := by decide +kernel
theorem dX6_maySell_17 : decode cX6_maySell 17 = .ok (.aload_n 0, 1) := by decide +kernel
theorem dX6_maySell_18 : decode cX6_maySell 18 = .ok (.getfield 7, 3) := by decide +kernel
theorem dX6_maySell_21 : decode cX6_maySell 21 = .ok (.iconst 1, 1) := by decide +kernel
theorem dX6_maySell_22 : decode cX6_maySell 22 = .ok (.iaload, 1) := by decide +kernel
theorem dX6_maySell_23 : decode cX6_maySell 23 = .ok (.if_icmp .gt 13, 3) := by decide +kernel
theorem dX6_maySell_26 : decode cX6_maySell 26 = .ok (.aload_n 0, 1) := by decide +kernel
theorem dX6_maySell_27 : decode cX6_maySell 27 = .ok (.iload_n 1, 1) := by decide +kernel
theorem dX6_maySell_28 : decode cX6_maySell 28 = .ok (.iload_n 2, 1) := by decide +kernel
theorem dX6_maySell_29 : decode cX6_maySell 29 = .ok (.invokevirtual 47, 3) := by decide +kernel
theorem dX6_maySell_32 : decode cX6_maySell 32 = .ok (.iconst 1, 1) := by decide +kernel
theorem dX6_maySell_33 : decode cX6_maySell 33 = .ok (.if_icmp .le 7, 3) := by decide +kernel
theorem dX6_maySell_36 : decode cX6_maySell 36 = .ok (.iconst 1, 1) := by decide +kernel
theorem dX6_maySell_37 : decode cX6_maySell 37 = .ok (.goto 4, 3) := by decide +kernel
theorem dX6_maySell_40 : decode cX6_maySell 40 = .ok (.iconst 0, 1) := by decide +kernel
theorem dX6_maySell_41 : decode cX6_maySell 41 = .ok (.ireturn, 1) := by decide +kernel
theorem dX6_goes_0 : decode cX6_goes 0 = .ok (.aload_n 0, 1) := by decide +kernel
theorem dX6_goes_1 : decode cX6_goes 1 = .ok (.iload_n 1, 1) := by decide +kernel
theorem dX6_goes_2 : decode cX6_goes 2 = .ok (.iload_n 3, 1) := by decide +kernel
theorem dX6_goes_3 : decode cX6_goes 3 = .ok (.iconst (-1), 1) := by decide +kernel
theorem dX6_goes_4 : decode cX6_goes 4 = .ok (.invokevirtual 148, 3) := by decide +kernel
theorem dX6_goes_7 : decode cX6_goes 7 = .ok (.aload_n 0, 1) := by decide +kernel
theorem dX6_goes_8 : decode cX6_goes 8 = .ok (.iload_n 2, 1) := by decide +kernel
theorem dX6_goes_9 : decode cX6_goes 9 = .ok (.iload_n 3, 1) := by decide +kernel
theorem dX6_goes_10 : decode cX6_goes 10 = .ok (.iconst 1, 1) := by decide +kernel
theorem dX6_goes_11 : decode cX6_goes 11 = .ok (.invokevirtual 148, 3) := by decide +kernel
theorem dX6_goes_14 : decode cX6_goes 14 = .ok (.return_, 1) := by decide +kernel
theorem dX6_areTwo_0 : decode cX6_areTwo 0 = .ok (.aload_n 0, 1) := by decide +kernel
theorem dX6_areTwo_1 : decode cX6_areTwo 1 = .ok (.iload_n 1, 1) := by decide +kernel
theorem dX6_areTwo_2 : decode cX6_areTwo 2 = .ok (.invokevirtual 78, 3) := by decide +kernel
theorem dX6_areTwo_5 : decode cX6_areTwo 5 = .ok (.ifCond .eq 20, 3) := by decide +kernel
theorem dX6_areTwo_8 : decode cX6_areTwo 8 = .ok (.aload_n 0, 1) := by decide +kernel
theorem dX6_areTwo_9 : decode cX6_areTwo 9 = .ok (.iload_n 2, 1) := by decide +kernel
theorem dX6_areTwo_10 : decode cX6_areTwo 10 = .ok (.invokevirtual 78, 3) := by decide +kernel
theorem dX6_areTwo_13 : decode cX6_areTwo 13 = .ok (.ifCond .eq 12, 3) := by decide +kernel
theorem dX6_areTwo_16 : decode cX6_areTwo 16 = .ok (.iload_n 1, 1) := by decide +kernel
theorem dX6_areTwo_17 : decode cX6_areTwo 17 = .ok (.iload_n 2, 1) := by decide +kernel
theorem dX6_areTwo_18 : decode cX6_areTwo 18 = .ok (.if_icmp .eq 7, 3) := by decide +kernel
theorem dX6_areTwo_21 : decode cX6_areTwo 21 = .ok (.iconst 1, 1) := by decide +kernel
theorem dX6_areTwo_22 : decode cX6_areTwo 22 = .ok (.goto 4, 3) := by decide +kernel
theorem dX6_areTwo_25 : decode cX6_areTwo 25 = .ok (.iconst 0, 1) := by decide +kernel
theorem dX6_areTwo_26 : decode cX6_areTwo 26 = .ok (.ireturn, 1) := by decide +kernel
theorem dX6_sell_0 : decode cX6_sell 0 = .ok (.aload_n 0, 1) := by decide +kernel
theorem dX6_sell_1 : decode cX6_sell 1 = .ok (.iload_n 1, 1) := by decide +kernel
theorem dX6_sell_2 : decode cX6_sell 2 = .ok (.iload_n 2, 1) := by decide +kernel
theorem dX6_sell_3 : decode cX6_sell 3 = .ok (.invokevirtual 154, 3) := by decide +kernel
theorem dX6_sell_6 : decode cX6_sell 6 = .ok (.ifCond .eq 23, 3) := by decide +kernel
theorem dX6_sell_9 : decode cX6_sell 9 = .ok (.iload_n 3, 1) := by decide +kernel
theorem dX6_sell_10 : decode cX6_sell 10 = .ok (.invokestatic 92, 3) := by decide +kernel
theorem dX6_sell_13 : decode cX6_sell 13 = .ok (.ifCond .eq 16, 3) := by decide +kernel
theorem dX6_sell_16 : decode cX6_sell 16 = .ok (.iload 4, 2) := by decide +kernel
theorem dX6_sell_18 : decode cX6_sell 18 = .ok (.i2l, 1) := by decide +kernel
theorem dX6_sell_19 : decode cX6_sell 19 = .ok (.lconst 0, 1) := by decide +kernel
theorem dX6_sell_20 : decode cX6_sell 20 = .ok (.ldc2_w 157, 3) := by decide +kernel
theorem dX6_sell_23 : decode cX6_sell 23 = .ok (.invokestatic 41, 3) := by decide +kernel
theorem dX6_sell_26 : decode cX6_sell 26 = .ok (.ifCond .ne 5, 3) := by decide +kernel
theorem dX6_sell_29 : decode cX6_sell 29 = .ok (.iconst (-1), 1) := by decide +kernel
theorem dX6_sell_30 : decode cX6_sell 30 = .ok (.ireturn, 1) := by decide +kernel
theorem dX6_sell_31 : decode cX6_sell 31 = .ok (.aload_n 0, 1) := by decide +kernel
theorem dX6_sell_32 : decode cX6_sell 32 = .ok (.iload_n 1, 1) := by decide +kernel
theorem dX6_sell_33 : decode cX6_sell 33 = .ok (.iload_n 3, 1) := by decide +kernel
theorem dX6_sell_34 : decode cX6_sell 34 = .ok (.invokevirtual 159, 3) := by decide +kernel
theorem dX6_sell_37 : decode cX6_sell 37 = .ok (.ifCond .eq 14, 3) := by decide +kernel
theorem dX6_sell_40 : decode cX6_sell 40 = .ok (.aload_n 0, 1) := by decide +kernel
theorem dX6_sell_41 : decode cX6_sell 41 = .ok (.iload_n 2, 1) := by decide +kernel
theorem dX6_sell_42 : decode cX6_sell 42 = .ok (.iconst 2, 1) := by decide +kernel
theorem dX6_sell_43 : decode cX6_sell 43 = .ok (.invokevirtual 55, 3) := by decide +kernel
theorem dX6_sell_46 : decode cX6_sell 46 = .ok (.iload 4, 2) := by decide +kernel
theorem dX6_sell_48 : decode cX6_sell 48 = .ok (.if_icmp .ge 6, 3) := by decide +kernel
theorem dX6_sell_51 : decode cX6_sell 51 = .ok (.bipush (-2), 2) := by decide +kernel
theorem dX6_sell_53 : decode cX6_sell 53 = .ok (.ireturn, 1) := by decide +kernel
theorem dX6_sell_54 : decode cX6_sell 54 = .ok (.aload_n 0, 1) := by decide +kernel
theorem dX6_sell_55 : decode cX6_sell 55 = .ok (.invokevirtual 162, 3) := by decide +kernel
theorem dX6_sell_58 : decode cX6_sell 58 = .ok (.aload_n 0, 1) := by decide +kernel
theorem dX6_sell_59 : decode cX6_sell 59 = .ok (.iload_n 1, 1) := by decide +kernel
theorem dX6_sell_60 : decode cX6_sell 60 = .ok (.iload_n 2, 1) := by decide +kernel
theorem dX6_sell_61 : decode cX6_sell 61 = .ok (.iload_n 3, 1) := by decide +kernel
theorem dX6_sell_62 : decode cX6_sell 62 = .ok (.invokevirtual 165, 3) := by decide +kernel
theorem dX6_sell_65 : decode cX6_sell 65 = .ok (.aload_n 0, 1) := by decide +kernel
theorem dX6_sell_66 : decode cX6_sell 66 = .ok (.iload_n 2, 1) := by decide +kernel
theorem dX6_sell_67 : decode cX6_sell 67 = .ok (.iload 4, 2) := by decide +kernel
theorem dX6_sell_69 : decode cX6_sell 69 = .ok (.invokevirtual 168, 3) := by decide +kernel
theorem dX6_sell_72 : decode cX6_sell 72 = .ok (.aload_n 0, 1) := by decide +kernel
theorem dX6_sell_73 : decode cX6_sell 73 = .ok (.iload_n 1, 1) := by decide +kernel
theorem dX6_sell_74 : decode cX6_sell 74 = .ok (.iload 4, 2) := by decide +kernel
theorem dX6_sell_76 : decode cX6_sell 76 = .ok (.ineg, 1) := by decide +kernel
theorem dX6_sell_77 : decode cX6_sell 77 = .ok (.invokevirtual 168, 3) := by decide +kernel
theorem dX6_sell_80 : decode cX6_sell 80 = .ok (.aload_n 0, 1) := by decide +kernel
theorem dX6_sell_81 : decode cX6_sell 81 = .ok (.iload_n 1, 1) := by decide +kernel
theorem dX6_sell_82 : decode cX6_sell 82 = .ok (.iconst 2, 1) := by decide +kernel
theorem dX6_sell_83 : decode cX6_sell 83 = .ok (.invokevirtual 55, 3) := by decide +kernel
theorem dX6_sell_86 : decode cX6_sell 86 = .ok (.ireturn, 1) := by decide +kernel
theorem dX6_seize_0 : decode cX6_seize 0 = .ok (.aload_n 0, 1) := by decide +kernel
theorem dX6_seize_1 : decode cX6_seize 1 = .ok (.iload_n 1, 1) := by decide +kernel
theorem dX6_seize_2 : decode cX6_seize 2 = .ok (.iload_n 2, 1) := by decide +kernel
theorem dX6_seize_3 : decode cX6_seize 3 = .ok (.invokevirtual 154, 3) := by decide +kernel
theorem dX6_seize_6 : decode cX6_seize 6 = .ok (.ifCond .ne 5, 3) := by decide +kernel
theorem dX6_seize_9 : decode cX6_seize 9 = .ok (.iconst (-1), 1) := by decide +kernel
theorem dX6_seize_10 : decode cX6_seize 10 = .ok (.ireturn, 1) := by decide +kernel
theorem dX6_seize_11 : decode cX6_seize 11 = .ok (.bipush (-4), 2) := by decide +kernel
theorem dX6_seize_13 : decode cX6_seize 13 = .ok (.istore_n 3, 1) := by decide +kernel
theorem dX6_seize_14 : decode cX6_seize 14 = .ok (.iconst 0, 1) := by decide +kernel
theorem dX6_seize_15 : decode cX6_seize 15 = .ok (.istore 4, 2) := by decide +kernel
theorem dX6_seize_17 : decode cX6_seize 17 = .ok (.iload 4, 2) := by decide +kernel
theorem dX6_seize_19 : decode cX6_seize 19 = .ok (.bipush 12, 2) := by decide +kernel
theorem dX6_seize_21 : decode cX6_seize 21 = .ok (.if_icmp .ge 48, 3) := by decide +kernel
theorem dX6_seize_24 : decode cX6_seize 24 = .ok (.aload_n 0, 1) := by decide +kernel
theorem dX6_seize_25 : decode cX6_seize 25 = .ok (.iload_n 1, 1) := by decide +kernel
theorem dX6_seize_26 : decode cX6_seize 26 = .ok (.iload 4, 2) := by decide +kernel
theorem dX6_seize_28 : decode cX6_seize 28 = .ok (.invokevirtual 51, 3) := by decide +kernel
theorem dX6_seize_31 : decode cX6_seize 31 = .ok (.ifCond .eq 30, 3) := by decide +kernel
theorem dX6_seize_34 : decode cX6_seize 34 = .ok (.iload_n 3, 1) := by decide +kernel
theorem dX6_seize_35 : decode cX6_seize 35 = .ok (.bipush (-4), 2) := by decide +kernel
theorem dX6_seize_37 : decode cX6_seize 37 = .ok (.if_icmp .eq 19, 3) := by decide +kernel
theorem dX6_seize_40 : decode cX6_seize 40 = .ok (.aload_n 0, 1) := by decide +kernel
theorem dX6_seize_41 : decode cX6_seize 41 = .ok (.iload_n 1, 1) := by decide +kernel
theorem dX6_seize_42 : decode cX6_seize 42 = .ok (.iload 4, 2) := by decide +kernel
theorem dX6_seize_44 : decode cX6_seize 44 = .ok (.invokevirtual 61, 3) := by decide +kernel
theorem dX6_seize_47 : decode cX6_seize 47 = .ok (.aload_n 0, 1) := by decide +kernel
theorem dX6_seize_48 : decode cX6_seize 48 = .ok (.iload_n 1, 1) := by decide +kernel
theorem dX6_seize_49 : decode cX6_seize 49 = .ok (.iload_n 3, 1) := by decide +kernel
theorem dX6_seize_50 : decode cX6_seize 50 = .ok (.invokevirtual 61, 3) := by decide +kernel
theorem dX6_seize_53 : decode cX6_seize 53 = .ok (.if_icmp .le 8, 3) := by decide +kernel
theorem dX6_seize_56 : decode cX6_seize 56 = .ok (.iload 4, 2) := by decide +kernel
theorem dX6_seize_58 : decode cX6_seize 58 = .ok (.goto 4, 3) := by decide +kernel
theorem dX6_seize_61 : decode cX6_seize 61 = .ok (.iload_n 3, 1) := by decide +kernel
theorem dX6_seize_62 : decode cX6_seize 62 = .ok (.istore_n 3, 1) := by decide +kernel
theorem dX6_seize_63 : decode cX6_seize 63 = .ok (.iinc 4 1, 3) := by decide +kernel
theorem dX6_seize_66 : decode cX6_seize 66 = .ok (.goto (-49), 3) := by decide +kernel
theorem dX6_seize_69 : decode cX6_seize 69 = .ok (.iload_n 3, 1) := by decide +kernel
theorem dX6_seize_70 : decode cX6_seize 70 = .ok (.bipush (-4), 2) := by decide +kernel
theorem dX6_seize_72 : decode cX6_seize 72 = .ok (.if_icmp .ne 6, 3) := by decide +kernel
theorem dX6_seize_75 : decode cX6_seize 75 = .ok (.bipush (-2), 2) := by decide +kernel
theorem dX6_seize_77 : decode cX6_seize 77 = .ok (.ireturn, 1) := by decide +kernel
theorem dX6_seize_78 : decode cX6_seize 78 = .ok (.aload_n 0, 1) := by decide +kernel
theorem dX6_seize_79 : decode cX6_seize 79 = .ok (.invokevirtual 162, 3) := by decide +kernel
theorem dX6_seize_82 : decode cX6_seize 82 = .ok (.aload_n 0, 1) := by decide +kernel
theorem dX6_seize_83 : decode cX6_seize 83 = .ok (.iload_n 1, 1) := by decide +kernel
theorem dX6_seize_84 : decode cX6_seize 84 = .ok (.iload_n 2, 1) := by decide +kernel
theorem dX6_seize_85 : decode cX6_seize 85 = .ok (.iload_n 3, 1) := by decide +kernel
theorem dX6_seize_86 : decode cX6_seize 86 = .ok (.invokevirtual 165, 3) := by decide +kernel
theorem dX6_seize_89 : decode cX6_seize 89 = .ok (.iload_n 3, 1) := by decide +kernel
theorem dX6_seize_90 : decode cX6_seize 90 = .ok (.ireturn, 1) := by decide +kernel
theorem dX6_give_0 : decode cX6_give 0 = .ok (.aload_n 0, 1) := by decide +kernel
theorem dX6_give_1 : decode cX6_give 1 = .ok (.iload_n 1, 1) := by decide +kernel
theorem dX6_give_2 : decode cX6_give 2 = .ok (.iload_n 2, 1) := by decide +kernel
theorem dX6_give_3 : decode cX6_give 3 = .ok (.invokevirtual 154, 3) := by decide +kernel
theorem dX6_give_6 : decode cX6_give 6 = .ok (.ifCond .eq 15, 3) := by decide +kernel
theorem dX6_give_9 : decode cX6_give 9 = .ok (.iload_n 3, 1) := by decide +kernel
theorem dX6_give_10 : decode cX6_give 10 = .ok (.i2l, 1) := by decide +kernel
theorem dX6_give_11 : decode cX6_give 11 = .ok (.lconst 1, 1) := by decide +kernel
theorem dX6_give_12 : decode cX6_give 12 = .ok (.ldc2_w 157, 3) := by decide +kernel
theorem dX6_give_15 : decode cX6_give 15 = .ok (.invokestatic 41, 3) := by decide +kernel
theorem dX6_give_18 : decode cX6_give 18 = .ok (.ifCond .ne 5, 3) := by decide +kernel
theorem dX6_give_21 : decode cX6_give 21 = .ok (.iconst (-1), 1) := by decide +kernel
theorem dX6_give_22 : decode cX6_give 22 = .ok (.ireturn, 1) := by decide +kernel
theorem dX6_give_23 : decode cX6_give 23 = .ok (.aload_n 0, 1) := by decide +kernel
theorem dX6_give_24 : decode cX6_give 24 = .ok (.iload_n 1, 1) := by decide +kernel
theorem dX6_give_25 : decode cX6_give 25 = .ok (.iconst 2, 1) := by decide +kernel
theorem dX6_give_26 : decode cX6_give 26 = .ok (.invokevirtual 55, 3) := by decide +kernel
theorem dX6_give_29 : decode cX6_give 29 = .ok (.iload_n 3, 1) := by decide +kernel
theorem dX6_give_30 : decode cX6_give 30 = .ok (.if_icmp .ge 6, 3) := by decide +kernel
theorem dX6_give_33 : decode cX6_give 33 = .ok (.bipush (-2), 2) := by decide +kernel
theorem dX6_give_35 : decode cX6_give 35 = .ok (.ireturn, 1) := by decide +kernel
theorem dX6_give_36 : decode cX6_give 36 = .ok (.aload_n 0, 1) := by decide +kernel
theorem dX6_give_37 : decode cX6_give 37 = .ok (.invokevirtual 162, 3) := by decide +kernel
theorem dX6_give_40 : decode cX6_give 40 = .ok (.aload_n 0, 1) := by decide +kernel
theorem dX6_give_41 : decode cX6_give 41 = .ok (.iload_n 1, 1) := by decide +kernel
theorem dX6_give_42 : decode cX6_give 42 = .ok (.iload_n 3, 1) := by decide +kernel
theorem dX6_give_43 : decode cX6_give 43 = .ok (.invokevirtual 168, 3) := by decide +kernel
theorem dX6_give_46 : decode cX6_give 46 = .ok (.aload_n 0, 1) := by decide +kernel
theorem dX6_give_47 : decode cX6_give 47 = .ok (.iload_n 2, 1) := by decide +kernel
theorem dX6_give_48 : decode cX6_give 48 = .ok (.iload_n 3, 1) := by decide +kernel
theorem dX6_give_49 : decode cX6_give 49 = .ok (.ineg, 1) := by decide +kernel
theorem dX6_give_50 : decode cX6_give 50 = .ok (.invokevirtual 168, 3) := by decide +kernel
theorem dX6_give_53 : decode cX6_give 53 = .ok (.aload_n 0, 1) := by decide +kernel
theorem dX6_give_54 : decode cX6_give 54 = .ok (.iload_n 1, 1) := by decide +kernel
theorem dX6_give_55 : decode cX6_give 55 = .ok (.iconst 2, 1) := by decide +kernel
theorem dX6_give_56 : decode cX6_give 56 = .ok (.invokevirtual 55, 3) := by decide +kernel
theorem dX6_give_59 : decode cX6_give 59 = .ok (.ireturn, 1) := by decide +kernel
theorem dX6_make_0 : decode cX6_make 0 = .ok (.iload_n 1, 1) := by decide +kernel
theorem dX6_make_1 : decode cX6_make 1 = .ok (.i2l, 1) := by decide +kernel
theorem dX6_make_2 : decode cX6_make 2 = .ok (.lconst 0, 1) := by decide +kernel
theorem dX6_make_3 : decode cX6_make 3 = .ok (.ldc2_w 84, 3) := by decide +kernel
theorem dX6_make_6 : decode cX6_make 6 = .ok (.invokestatic 41, 3) := by decide +kernel
theorem dX6_make_9 : decode cX6_make 9 = .ok (.ifCond .eq 23, 3) := by decide +kernel
theorem dX6_make_12 : decode cX6_make 12 = .ok (.iload_n 2, 1) := by decide +kernel
theorem dX6_make_13 : decode cX6_make 13 = .ok (.i2l, 1) := by decide +kernel
theorem dX6_make_14 : decode cX6_make 14 = .ok (.lconst 0, 1) := by decide +kernel
theorem dX6_make_15 : decode cX6_make 15 = .ok (.lconst 1, 1) := by decide +kernel
theorem dX6_make_16 : decode cX6_make 16 = .ok (.invokestatic 41, 3) := by decide +kernel
theorem dX6_make_19 : decode cX6_make 19 = .ok (.ifCond .eq 13, 3) := by decide +kernel
theorem dX6_make_22 : decode cX6_make 22 = .ok (.iload_n 3, 1) := by decide +kernel
theorem dX6_make_23 : decode cX6_make 23 = .ok (.i2l, 1) := by decide +kernel
theorem dX6_make_24 : decode cX6_make 24 = .ok (.lconst 0, 1) := by decide +kernel
theorem dX6_make_25 : decode cX6_make 25 = .ok (.lconst 1, 1) := by decide +kernel
theorem dX6_make_26 : decode cX6_make 26 = .ok (.invokestatic 41, 3) := by decide +kernel
theorem dX6_make_29 : decode cX6_make 29 = .ok (.ifCond .ne 5, 3) := by decide +kernel
theorem dX6_make_32 : decode cX6_make 32 = .ok (.iconst (-1), 1) := by decide +kernel
theorem dX6_make_33 : decode cX6_make 33 = .ok (.ireturn, 1) := by decide +kernel
theorem dX6_make_34 : decode cX6_make 34 = .ok (.aload_n 0, 1) := by decide +kernel
theorem dX6_make_35 : decode cX6_make 35 = .ok (.getfield 7, 3) := by decide +kernel
theorem dX6_make_38 : decode cX6_make 38 = .ok (.iconst 2, 1) := by decide +kernel
theorem dX6_make_39 : decode cX6_make 39 = .ok (.iload_n 2, 1) := by decide +kernel
theorem dX6_make_40 : decode cX6_make 40 = .ok (.iadd, 1) := by decide +kernel
theorem dX6_make_41 : decode cX6_make 41 = .ok (.iaload, 1) := by decide +kernel
theorem dX6_make_42 : decode cX6_make 42 = .ok (.iload_n 1, 1) := by decide +kernel
theorem dX6_make_43 : decode cX6_make 43 = .ok (.ishr, 1) := by decide +kernel
theorem dX6_make_44 : decode cX6_make 44 = .ok (.iconst 1, 1) := by decide +kernel
theorem dX6_make_45 : decode cX6_make 45 = .ok (.iand, 1) := by decide +kernel
theorem dX6_make_46 : decode cX6_make 46 = .ok (.iload_n 3, 1) := by decide +kernel
theorem dX6_make_47 : decode cX6_make 47 = .ok (.if_icmp .ne 6, 3) := by decide +kernel
theorem dX6_make_50 : decode cX6_make 50 = .ok (.bipush (-2), 2) := by decide +kernel
theorem dX6_make_52 : decode cX6_make 52 = .ok (.ireturn, 1) := by decide +kernel
theorem dX6_make_53 : decode cX6_make 53 = .ok (.aload_n 0, 1) := by decide +kernel
theorem dX6_make_54 : decode cX6_make 54 = .ok (.invokevirtual 162, 3) := by decide +kernel
theorem dX6_make_57 : decode cX6_make 57 = .ok (.aload_n 0, 1) := by decide +kernel
theorem dX6_make_58 : decode cX6_make 58 = .ok (.getfield 7, 3) := by decide +kernel
theorem dX6_make_61 : decode cX6_make 61 = .ok (.iconst 2, 1) := by decide +kernel
theorem dX6_make_62 : decode cX6_make 62 = .ok (.iload_n 2, 1) := by decide +kernel
theorem dX6_make_63 : decode cX6_make 63 = .ok (.iadd, 1) := by decide +kernel
theorem dX6_make_64 : decode cX6_make 64 = .ok (.dup2, 1) := by decide +kernel
theorem dX6_make_65 : decode cX6_make 65 = .ok (.iaload, 1) := by decide +kernel
theorem dX6_make_66 : decode cX6_make 66 = .ok (.iconst 1, 1) := by decide +kernel
theorem dX6_make_67 : decode cX6_make 67 = .ok (.iload_n 1, 1) := by decide +kernel
theorem dX6_make_68 : decode cX6_make 68 = .ok (.ishl, 1) := by decide +kernel
theorem dX6_make_69 : decode cX6_make 69 = .ok (.ixor, 1) := by decide +kernel
theorem dX6_make_70 : decode cX6_make 70 = .ok (.iastore, 1) := by decide +kernel
theorem dX6_make_71 : decode cX6_make 71 = .ok (.aload_n 0, 1) := by decide +kernel
theorem dX6_make_72 : decode cX6_make 72 = .ok (.getfield 7, 3) := by decide +kernel
theorem dX6_make_75 : decode cX6_make 75 = .ok (.iconst 2, 1) := by decide +kernel
theorem dX6_make_76 : decode cX6_make 76 = .ok (.iload_n 2, 1) := by decide +kernel
theorem dX6_make_77 : decode cX6_make 77 = .ok (.iadd, 1) := by decide +kernel
theorem dX6_make_78 : decode cX6_make 78 = .ok (.iaload, 1) := by decide +kernel
theorem dX6_make_79 : decode cX6_make 79 = .ok (.ireturn, 1) := by decide +kernel
theorem dX6_middleOf_0 : decode cX6_middleOf 0 = .ok (.aload_n 0, 1) := by decide +kernel
theorem dX6_middleOf_1 : decode cX6_middleOf 1 = .ok (.iload_n 1, 1) := by decide +kernel
theorem dX6_middleOf_2 : decode cX6_middleOf 2 = .ok (.invokevirtual 64, 3) := by decide +kernel
theorem dX6_middleOf_5 : decode cX6_middleOf 5 = .ok (.istore 4, 2) := by decide +kernel
theorem dX6_middleOf_7 : decode cX6_middleOf 7 = .ok (.aload_n 0, 1) := by decide +kernel
theorem dX6_middleOf_8 : decode cX6_middleOf 8 = .ok (.iload_n 2, 1) := by decide +kernel
theorem dX6_middleOf_9 : decode cX6_middleOf 9 = .ok (.invokevirtual 64, 3) := by decide +kernel
theorem dX6_middleOf_12 : decode cX6_middleOf 12 = .ok (.istore 5, 2) := by decide +kernel
theorem dX6_middleOf_14 : decode cX6_middleOf 14 = .ok (.aload_n 0, 1) := by decide +kernel
theorem dX6_middleOf_15 : decode cX6_middleOf 15 = .ok (.iload_n 1, 1) := by decide +kernel
theorem dX6_middleOf_16 : decode cX6_middleOf 16 = .ok (.iload_n 2, 1) := by decide +kernel
theorem dX6_middleOf_17 : decode cX6_middleOf 17 = .ok (.iload_n 3, 1) := by decide +kernel
theorem dX6_middleOf_18 : decode cX6_middleOf 18 = .ok (.invokevirtual 165, 3) := by decide +kernel
theorem dX6_middleOf_21 : decode cX6_middleOf 21 = .ok (.iload 4, 2) := by decide +kernel
theorem dX6_middleOf_23 : decode cX6_middleOf 23 = .ok (.aload_n 0, 1) := by decide +kernel
theorem dX6_middleOf_24 : decode cX6_middleOf 24 = .ok (.iload_n 1, 1) := by decide +kernel
theorem dX6_middleOf_25 : decode cX6_middleOf 25 = .ok (.invokevirtual 64, 3) := by decide +kernel
theorem dX6_middleOf_28 : decode cX6_middleOf 28 = .ok (.isub, 1) := by decide +kernel
theorem dX6_middleOf_29 : decode cX6_middleOf 29 = .ok (.aload_n 0, 1) := by decide +kernel
theorem dX6_middleOf_30 : decode cX6_middleOf 30 = .ok (.iload_n 2, 1) := by decide +kernel
theorem dX6_middleOf_31 : decode cX6_middleOf 31 = .ok (.invokevirtual 64, 3) := by decide +kernel
theorem dX6_middleOf_34 : decode cX6_middleOf 34 = .ok (.iadd, 1) := by decide +kernel
theorem dX6_middleOf_35 : decode cX6_middleOf 35 = .ok (.iload 5, 2) := by decide +kernel
theorem dX6_middleOf_37 : decode cX6_middleOf 37 = .ok (.isub, 1) := by decide +kernel
theorem dX6_middleOf_38 : decode cX6_middleOf 38 = .ok (.iconst 2, 1) := by decide +kernel
theorem dX6_middleOf_39 : decode cX6_middleOf 39 = .ok (.idiv, 1) := by decide +kernel
theorem dX6_middleOf_40 : decode cX6_middleOf 40 = .ok (.istore 6, 2) := by decide +kernel
theorem dX6_middleOf_42 : decode cX6_middleOf 42 = .ok (.aload_n 0, 1) := by decide +kernel
theorem dX6_middleOf_43 : decode cX6_middleOf 43 = .ok (.iload_n 2, 1) := by decide +kernel
theorem dX6_middleOf_44 : decode cX6_middleOf 44 = .ok (.iload_n 1, 1) := by decide +kernel
theorem dX6_middleOf_45 : decode cX6_middleOf 45 = .ok (.iload_n 3, 1) := by decide +kernel
theorem dX6_middleOf_46 : decode cX6_middleOf 46 = .ok (.invokevirtual 165, 3) := by decide +kernel
theorem dX6_middleOf_49 : decode cX6_middleOf 49 = .ok (.iload 6, 2) := by decide +kernel
theorem dX6_middleOf_51 : decode cX6_middleOf 51 = .ok (.ifCond .ge 7, 3) := by decide +kernel
theorem dX6_middleOf_54 : decode cX6_middleOf 54 = .ok (.iconst 0, 1) := by decide +kernel
theorem dX6_middleOf_55 : decode cX6_middleOf 55 = .ok (.goto 5, 3) := by decide +kernel
theorem dX6_middleOf_58 : decode cX6_middleOf 58 = .ok (.iload 6, 2) := by decide +kernel
theorem dX6_middleOf_60 : decode cX6_middleOf 60 = .ok (.ireturn, 1) := by decide +kernel
theorem dX6_trades_0 : decode cX6_trades 0 = .ok (.iload_n 1, 1) := by decide +kernel
theorem dX6_trades_1 : decode cX6_trades 1 = .ok (.iload_n 2, 1) := by decide +kernel
theorem dX6_trades_2 : decode cX6_trades 2 = .ok (.if_icmp .eq 12, 3) := by decide +kernel
theorem dX6_trades_5 : decode cX6_trades 5 = .ok (.aload_n 0, 1) := by decide +kernel
theorem dX6_trades_6 : decode cX6_trades 6 = .ok (.iload_n 1, 1) := by decide +kernel
theorem dX6_trades_7 : decode cX6_trades 7 = .ok (.iload_n 3, 1) := by decide +kernel
theorem dX6_trades_8 : decode cX6_trades 8 = .ok (.invokevirtual 159, 3) := by decide +kernel
theorem dX6_trades_11 : decode cX6_trades 11 = .ok (.ifCond .ne 4, 3) := by decide +kernel
theorem dX6_trades_14 : decode cX6_trades 14 = .ok (.return_, 1) := by decide +kernel
theorem dX6_trades_15 : decode cX6_trades 15 = .ok (.aload_n 0, 1) := by decide +kernel
theorem dX6_trades_16 : decode cX6_trades 16 = .ok (.iload_n 1, 1) := by decide +kernel
theorem dX6_trades_17 : decode cX6_trades 17 = .ok (.iload_n 2, 1) := by decide +kernel
theorem dX6_trades_18 : decode cX6_trades 18 = .ok (.iload_n 3, 1) := by decide +kernel
theorem dX6_trades_19 : decode cX6_trades 19 = .ok (.invokevirtual 172, 3) := by decide +kernel
theorem dX6_trades_22 : decode cX6_trades 22 = .ok (.istore 4, 2) := by decide +kernel
theorem dX6_trades_24 : decode cX6_trades 24 = .ok (.aload_n 0, 1) := by decide +kernel
theorem dX6_trades_25 : decode cX6_trades 25 = .ok (.iload_n 2, 1) := by decide +kernel
theorem dX6_trades_26 : decode cX6_trades 26 = .ok (.iconst 2, 1) := by decide +kernel
theorem dX6_trades_27 : decode cX6_trades 27 = .ok (.invokevirtual 55, 3) := by decide +kernel
theorem dX6_trades_30 : decode cX6_trades 30 = .ok (.iload 4, 2) := by decide +kernel
theorem dX6_trades_32 : decode cX6_trades 32 = .ok (.if_icmp .lt 25, 3) := by decide +kernel
theorem dX6_trades_35 : decode cX6_trades 35 = .ok (.aload_n 0, 1) := by decide +kernel
theorem dX6_trades_36 : decode cX6_trades 36 = .ok (.iload_n 1, 1) := by decide +kernel
theorem dX6_trades_37 : decode cX6_trades 37 = .ok (.iload_n 2, 1) := by decide +kernel
theorem dX6_trades_38 : decode cX6_trades 38 = .ok (.iload_n 3, 1) := by decide +kernel
theorem dX6_trades_39 : decode cX6_trades 39 = .ok (.invokevirtual 165, 3) := by decide +kernel
theorem dX6_trades_42 : decode cX6_trades 42 = .ok (.aload_n 0, 1) := by decide +kernel
theorem dX6_trades_43 : decode cX6_trades 43 = .ok (.iload_n 2, 1) := by decide +kernel
theorem dX6_trades_44 : decode cX6_trades 44 = .ok (.iload 4, 2) := by decide +kernel
theorem dX6_trades_46 : decode cX6_trades 46 = .ok (.invokevirtual 168, 3) := by decide +kernel
theorem dX6_trades_49 : decode cX6_trades 49 = .ok (.aload_n 0, 1) := by decide +kernel
theorem dX6_trades_50 : decode cX6_trades 50 = .ok (.iload_n 1, 1) := by decide +kernel
theorem dX6_trades_51 : decode cX6_trades 51 = .ok (.iload 4, 2) := by decide +kernel
theorem dX6_trades_53 : decode cX6_trades 53 = .ok (.ineg, 1) := by decide +kernel
theorem dX6_trades_54 : decode cX6_trades 54 = .ok (.invokevirtual 168, 3) := by decide +kernel
theorem dX6_trades_57 : decode cX6_trades 57 = .ok (.return_, 1) := by decide +kernel
theorem dX6_drift_0 : decode cX6_drift 0 = .ok (.iload_n 1, 1) := by decide +kernel
theorem dX6_drift_1 : decode cX6_drift 1 = .ok (.i2l, 1) := by decide +kernel
theorem dX6_drift_2 : decode cX6_drift 2 = .ok (.lconst 1, 1) := by decide +kernel
theorem dX6_drift_3 : decode cX6_drift 3 = .ok (.ldc2_w 176, 3) := by decide +kernel
theorem dX6_drift_6 : decode cX6_drift 6 = .ok (.invokestatic 41, 3) := by decide +kernel
theorem dX6_drift_9 : decode cX6_drift 9 = .ok (.ifCond .ne 5, 3) := by decide +kernel
theorem dX6_drift_12 : decode cX6_drift 12 = .ok (.iconst (-1), 1) := by decide +kernel
theorem dX6_drift_13 : decode cX6_drift 13 = .ok (.ireturn, 1) := by decide +kernel
theorem dX6_drift_14 : decode cX6_drift 14 = .ok (.iconst 0, 1) := by decide +kernel
theorem dX6_drift_15 : decode cX6_drift 15 = .ok (.istore_n 2, 1) := by decide +kernel
theorem dX6_drift_16 : decode cX6_drift 16 = .ok (.iload_n 2, 1) := by decide +kernel
theorem dX6_drift_17 : decode cX6_drift 17 = .ok (.iload_n 1, 1) := by decide +kernel
theorem dX6_drift_18 : decode cX6_drift 18 = .ok (.if_icmp .ge 98, 3) := by decide +kernel
theorem dX6_drift_21 : decode cX6_drift 21 = .ok (.aload_n 0, 1) := by decide +kernel
theorem dX6_drift_22 : decode cX6_drift 22 = .ok (.invokevirtual 162, 3) := by decide +kernel
theorem dX6_drift_25 : decode cX6_drift 25 = .ok (.aload_n 0, 1) := by decide +kernel
theorem dX6_drift_26 : decode cX6_drift 26 = .ok (.getfield 7, 3) := by decide +kernel
theorem dX6_drift_29 : decode cX6_drift 29 = .ok (.iconst 4, 1) := by decide +kernel
theorem dX6_drift_30 : decode cX6_drift 30 = .ok (.aload_n 0, 1) := by decide +kernel
theorem dX6_drift_31 : decode cX6_drift 31 = .ok (.getfield 7, 3) := by decide +kernel
theorem dX6_drift_34 : decode cX6_drift 34 = .ok (.iconst 4, 1) := by decide +kernel
theorem dX6_drift_35 : decode cX6_drift 35 = .ok (.iaload, 1) := by decide +kernel
theorem dX6_drift_36 : decode cX6_drift 36 = .ok (.i2l, 1) := by decide +kernel
theorem dX6_drift_37 : decode cX6_drift 37 = .ok (.ldc2_w 178, 3) := by decide +kernel
theorem dX6_drift_40 : decode cX6_drift 40 = .ok (.lmul, 1) := by decide +kernel
theorem dX6_drift_41 : decode cX6_drift 41 = .ok (.ldc2_w 180, 3) := by decide +kernel
theorem dX6_drift_44 : decode cX6_drift 44 = .ok (.ladd, 1) := by decide +kernel
theorem dX6_drift_45 : decode cX6_drift 45 = .ok (.ldc2_w 182, 3) := by decide +kernel
theorem dX6_drift_48 : decode cX6_drift 48 = .ok (.land, 1) := by decide +kernel
theorem dX6_drift_49 : decode cX6_drift 49 = .ok (.l2i, 1) := by decide +kernel
theorem dX6_drift_50 : decode cX6_drift 50 = .ok (.iastore, 1) := by decide +kernel
theorem dX6_drift_51 : decode cX6_drift 51 = .ok (.aload_n 0, 1) := by decide +kernel
theorem dX6_drift_52 : decode cX6_drift 52 = .ok (.getfield 7, 3) := by decide +kernel
theorem dX6_drift_55 : decode cX6_drift 55 = .ok (.iconst 0, 1) := by decide +kernel
theorem dX6_drift_56 : decode cX6_drift 56 = .ok (.iaload, 1) := by decide +kernel
theorem dX6_drift_57 : decode cX6_drift 57 = .ok (.ifCond .le 53, 3) := by decide +kernel
theorem dX6_drift_60 : decode cX6_drift 60 = .ok (.aload_n 0, 1) := by decide +kernel
theorem dX6_drift_61 : decode cX6_drift 61 = .ok (.aload_n 0, 1) := by decide +kernel
theorem dX6_drift_62 : decode cX6_drift 62 = .ok (.getfield 7, 3) := by decide +kernel
theorem dX6_drift_65 : decode cX6_drift 65 = .ok (.iconst 4, 1) := by decide +kernel
theorem dX6_drift_66 : decode cX6_drift 66 = .ok (.iaload, 1) := by decide +kernel
theorem dX6_drift_67 : decode cX6_drift 67 = .ok (.ldc 184, 2) := by decide +kernel
theorem dX6_drift_69 : decode cX6_drift 69 = .ok (.idiv, 1) := by decide +kernel
theorem dX6_drift_70 : decode cX6_drift 70 = .ok (.aload_n 0, 1) := by decide +kernel
theorem dX6_drift_71 : decode cX6_drift 71 = .ok (.getfield 7, 3) := by decide +kernel
theorem dX6_drift_74 : decode cX6_drift 74 = .ok (.iconst 0, 1) := by decide +kernel
theorem dX6_drift_75 : decode cX6_drift 75 = .ok (.iaload, 1) := by decide +kernel
theorem dX6_drift_76 : decode cX6_drift 76 = .ok (.irem, 1) := by decide +kernel
theorem dX6_drift_77 : decode cX6_drift 77 = .ok (.aload_n 0, 1) := by decide +kernel
theorem dX6_drift_78 : decode cX6_drift 78 = .ok (.getfield 7, 3) := by decide +kernel
theorem dX6_drift_81 : decode cX6_drift 81 = .ok (.iconst 4, 1) := by decide +kernel
theorem dX6_drift_82 : decode cX6_drift 82 = .ok (.iaload, 1) := by decide +kernel
theorem dX6_drift_83 : decode cX6_drift 83 = .ok (.sipush 1024, 3) := by decide +kernel
theorem dX6_drift_86 : decode cX6_drift 86 = .ok (.idiv, 1) := by decide +kernel
theorem dX6_drift_87 : decode cX6_drift 87 = .ok (.aload_n 0, 1) := by decide +kernel
theorem dX6_drift_88 : decode cX6_drift 88 = .ok (.getfield 7, 3) := by decide +kernel
theorem dX6_drift_91 : decode cX6_drift 91 = .ok (.iconst 0, 1) := by decide +kernel
theorem dX6_drift_92 : decode cX6_drift 92 = .ok (.iaload, 1) := by decide +kernel
theorem dX6_drift_93 : decode cX6_drift 93 = .ok (.irem, 1) := by decide +kernel
theorem dX6_drift_94 : decode cX6_drift 94 = .ok (.aload_n 0, 1) := by decide +kernel
theorem dX6_drift_95 : decode cX6_drift 95 = .ok (.getfield 7, 3) := by decide +kernel
theorem dX6_drift_98 : decode cX6_drift 98 = .ok (.iconst 4, 1) := by decide +kernel
theorem dX6_drift_99 : decode cX6_drift 99 = .ok (.iaload, 1) := by decide +kernel
theorem dX6_drift_100 : decode cX6_drift 100 = .ok (.sipush 128, 3) := by decide +kernel
theorem dX6_drift_103 : decode cX6_drift 103 = .ok (.idiv, 1) := by decide +kernel
theorem dX6_drift_104 : decode cX6_drift 104 = .ok (.bipush 12, 2) := by decide +kernel
theorem dX6_drift_106 : decode cX6_drift 106 = .ok (.irem, 1) := by decide +kernel
theorem dX6_drift_107 : decode cX6_drift 107 = .ok (.invokevirtual 185, 3) := by decide +kernel
theorem dX6_drift_110 : decode cX6_drift 110 = .ok (.iinc 2 1, 3) := by decide +kernel
theorem dX6_drift_113 : decode cX6_drift 113 = .ok (.goto (-97), 3) := by decide +kernel
theorem dX6_drift_116 : decode cX6_drift 116 = .ok (.aload_n 0, 1) := by decide +kernel
theorem dX6_drift_117 : decode cX6_drift 117 = .ok (.invokevirtual 95, 3) := by decide +kernel
theorem dX6_drift_120 : decode cX6_drift 120 = .ok (.ireturn, 1) := by decide +kernel
theorem dX6_undo_0 : decode cX6_undo 0 = .ok (.aload_n 0, 1) := by decide +kernel
theorem dX6_undo_1 : decode cX6_undo 1 = .ok (.getfield 68, 3) := by decide +kernel
theorem dX6_undo_4 : decode cX6_undo 4 = .ok (.ifCond .ne 6, 3) := by decide +kernel
theorem dX6_undo_7 : decode cX6_undo 7 = .ok (.bipush (-4), 2) := by decide +kernel
theorem dX6_undo_9 : decode cX6_undo 9 = .ok (.ireturn, 1) := by decide +kernel
theorem dX6_undo_10 : decode cX6_undo 10 = .ok (.aload_n 0, 1) := by decide +kernel
theorem dX6_undo_11 : decode cX6_undo 11 = .ok (.dup, 1) := by decide +kernel
theorem dX6_undo_12 : decode cX6_undo 12 = .ok (.getfield 68, 3) := by decide +kernel
theorem dX6_undo_15 : decode cX6_undo 15 = .ok (.iconst 1, 1) := by decide +kernel
theorem dX6_undo_16 : decode cX6_undo 16 = .ok (.isub, 1) := by decide +kernel
theorem dX6_undo_17 : decode cX6_undo 17 = .ok (.putfield 68, 3) := by decide +kernel
theorem dX6_undo_20 : decode cX6_undo 20 = .ok (.bipush 81, 2) := by decide +kernel
theorem dX6_undo_22 : decode cX6_undo 22 = .ok (.aload_n 0, 1) := by decide +kernel
theorem dX6_undo_23 : decode cX6_undo 23 = .ok (.getfield 68, 3) := by decide +kernel
theorem dX6_undo_26 : decode cX6_undo 26 = .ok (.imul, 1) := by decide +kernel
theorem dX6_undo_27 : decode cX6_undo 27 = .ok (.istore_n 1, 1) := by decide +kernel
theorem dX6_undo_28 : decode cX6_undo 28 = .ok (.iconst 0, 1) := by decide +kernel
theorem dX6_undo_29 : decode cX6_undo 29 = .ok (.istore_n 2, 1) := by decide +kernel
theorem dX6_undo_30 : decode cX6_undo 30 = .ok (.iload_n 2, 1) := by decide +kernel
theorem dX6_undo_31 : decode cX6_undo 31 = .ok (.iconst 3, 1) := by decide +kernel
theorem dX6_undo_32 : decode cX6_undo 32 = .ok (.if_icmp .ge 25, 3) := by decide +kernel
theorem dX6_undo_35 : decode cX6_undo 35 = .ok (.aload_n 0, 1) := by decide +kernel
theorem dX6_undo_36 : decode cX6_undo 36 = .ok (.getfield 7, 3) := by decide +kernel
theorem dX6_undo_39 : decode cX6_undo 39 = .ok (.iconst 2, 1) := by decide +kernel
theorem dX6_undo_40 : decode cX6_undo 40 = .ok (.iload_n 2, 1) := by decide +kernel
theorem dX6_undo_41 : decode cX6_undo 41 = .ok (.iadd, 1) := by decide +kernel
theorem dX6_undo_42 : decode cX6_undo 42 = .ok (.aload_n 0, 1) := by decide +kernel
theorem dX6_undo_43 : decode cX6_undo 43 = .ok (.getfield 19, 3) := by decide +kernel
theorem dX6_undo_46 : decode cX6_undo 46 = .ok (.iload_n 1, 1) := by decide +kernel
theorem dX6_undo_47 : decode cX6_undo 47 = .ok (.iload_n 2, 1) := by decide +kernel
theorem dX6_undo_48 : decode cX6_undo 48 = .ok (.iadd, 1) := by decide +kernel
theorem dX6_undo_49 : decode cX6_undo 49 = .ok (.iaload, 1) := by decide +kernel
theorem dX6_undo_50 : decode cX6_undo 50 = .ok (.iastore, 1) := by decide +kernel
theorem dX6_undo_51 : decode cX6_undo 51 = .ok (.iinc 2 1, 3) := by decide +kernel
theorem dX6_undo_54 : decode cX6_undo 54 = .ok (.goto (-24), 3) := by decide +kernel
theorem dX6_undo_57 : decode cX6_undo 57 = .ok (.iconst 0, 1) := by decide +kernel
theorem dX6_undo_58 : decode cX6_undo 58 = .ok (.istore_n 2, 1) := by decide +kernel
theorem dX6_undo_59 : decode cX6_undo 59 = .ok (.iload_n 2, 1) := by decide +kernel
theorem dX6_undo_60 : decode cX6_undo 60 = .ok (.bipush 6, 2) := by decide +kernel
theorem dX6_undo_62 : decode cX6_undo 62 = .ok (.if_icmp .ge 31, 3) := by decide +kernel
theorem dX6_undo_65 : decode cX6_undo 65 = .ok (.aload_n 0, 1) := by decide +kernel
theorem dX6_undo_66 : decode cX6_undo 66 = .ok (.getfield 7, 3) := by decide +kernel
theorem dX6_undo_69 : decode cX6_undo 69 = .ok (.iconst 5, 1) := by decide +kernel
theorem dX6_undo_70 : decode cX6_undo 70 = .ok (.iconst 3, 1) := by decide +kernel
theorem dX6_undo_71 : decode cX6_undo 71 = .ok (.iload_n 2, 1) := by decide +kernel
theorem dX6_undo_72 : decode cX6_undo 72 = .ok (.imul, 1) := by decide +kernel
theorem dX6_undo_73 : decode cX6_undo 73 = .ok (.iadd, 1) := by decide +kernel
theorem dX6_undo_74 : decode cX6_undo 74 = .ok (.iconst 2, 1) := by decide +kernel
theorem dX6_undo_75 : decode cX6_undo 75 = .ok (.iadd, 1) := by decide +kernel
theorem dX6_undo_76 : decode cX6_undo 76 = .ok (.aload_n 0, 1) := by decide +kernel
theorem dX6_undo_77 : decode cX6_undo 77 = .ok (.getfield 19, 3) := by decide +kernel
theorem dX6_undo_80 : decode cX6_undo 80 = .ok (.iload_n 1, 1) := by decide +kernel
theorem dX6_undo_81 : decode cX6_undo 81 = .ok (.iconst 3, 1) := by decide +kernel
theorem dX6_undo_82 : decode cX6_undo 82 = .ok (.iadd, 1) := by decide +kernel
theorem dX6_undo_83 : decode cX6_undo 83 = .ok (.iload_n 2, 1) := by decide +kernel
theorem dX6_undo_84 : decode cX6_undo 84 = .ok (.iadd, 1) := by decide +kernel
theorem dX6_undo_85 : decode cX6_undo 85 = .ok (.iaload, 1) := by decide +kernel
theorem dX6_undo_86 : decode cX6_undo 86 = .ok (.iastore, 1) := by decide +kernel
theorem dX6_undo_87 : decode cX6_undo 87 = .ok (.iinc 2 1, 3) := by decide +kernel
theorem dX6_undo_90 : decode cX6_undo 90 = .ok (.goto (-31), 3) := by decide +kernel
theorem dX6_undo_93 : decode cX6_undo 93 = .ok (.iconst 0, 1) := by decide +kernel
theorem dX6_undo_94 : decode cX6_undo 94 = .ok (.istore_n 2, 1) := by decide +kernel
theorem dX6_undo_95 : decode cX6_undo 95 = .ok (.iload_n 2, 1) := by decide +kernel
theorem dX6_undo_96 : decode cX6_undo 96 = .ok (.bipush 72, 2) := by decide +kernel
theorem dX6_undo_98 : decode cX6_undo 98 = .ok (.if_icmp .ge 29, 3) := by decide +kernel
theorem dX6_undo_101 : decode cX6_undo 101 = .ok (.aload_n 0, 1) := by decide +kernel
theorem dX6_undo_102 : decode cX6_undo 102 = .ok (.getfield 7, 3) := by decide +kernel
theorem dX6_undo_105 : decode cX6_undo 105 = .ok (.bipush 23, 2) := by decide +kernel
theorem dX6_undo_107 : decode cX6_undo 107 = .ok (.iload_n 2, 1) := by decide +kernel
theorem dX6_undo_108 : decode cX6_undo 108 = .ok (.iadd, 1) := by decide +kernel
theorem dX6_undo_109 : decode cX6_undo 109 = .ok (.aload_n 0, 1) := by decide +kernel
theorem dX6_undo_110 : decode cX6_undo 110 = .ok (.getfield 19, 3) := by decide +kernel
theorem dX6_undo_113 : decode cX6_undo 113 = .ok (.iload_n 1, 1) := by decide +kernel
theorem dX6_undo_114 : decode cX6_undo 114 = .ok (.bipush 9, 2) := by decide +kernel
theorem dX6_undo_116 : decode cX6_undo 116 = .ok (.iadd, 1) := by decide +kernel
theorem dX6_undo_117 : decode cX6_undo 117 = .ok (.iload_n 2, 1) := by decide +kernel
theorem dX6_undo_118 : decode cX6_undo 118 = .ok (.iadd, 1) := by decide +kernel
theorem dX6_undo_119 : decode cX6_undo 119 = .ok (.iaload, 1) := by decide +kernel
theorem dX6_undo_120 : decode cX6_undo 120 = .ok (.iastore, 1) := by decide +kernel
theorem dX6_undo_121 : decode cX6_undo 121 = .ok (.iinc 2 1, 3) := by decide +kernel
theorem dX6_undo_124 : decode cX6_undo 124 = .ok (.goto (-29), 3) := by decide +kernel
theorem dX6_undo_127 : decode cX6_undo 127 = .ok (.aload_n 0, 1) := by decide +kernel
theorem dX6_undo_128 : decode cX6_undo 128 = .ok (.getfield 68, 3) := by decide +kernel
theorem dX6_undo_131 : decode cX6_undo 131 = .ok (.ireturn, 1) := by decide +kernel
theorem dX6_seed_0 : decode cX6_seed 0 = .ok (.iload_n 1, 1) := by decide +kernel
theorem dX6_seed_1 : decode cX6_seed 1 = .ok (.ifCond .ge 5, 3) := by decide +kernel
theorem dX6_seed_4 : decode cX6_seed 4 = .ok (.iconst (-1), 1) := by decide +kernel
theorem dX6_seed_5 : decode cX6_seed 5 = .ok (.ireturn, 1) := by decide +kernel
theorem dX6_seed_6 : decode cX6_seed 6 = .ok (.aload_n 0, 1) := by decide +kernel
theorem dX6_seed_7 : decode cX6_seed 7 = .ok (.getfield 7, 3) := by decide +kernel
theorem dX6_seed_10 : decode cX6_seed 10 = .ok (.iconst 4, 1) := by decide +kernel
theorem dX6_seed_11 : decode cX6_seed 11 = .ok (.iaload, 1) := by decide +kernel
theorem dX6_seed_12 : decode cX6_seed 12 = .ok (.istore_n 2, 1) := by decide +kernel
theorem dX6_seed_13 : decode cX6_seed 13 = .ok (.aload_n 0, 1) := by decide +kernel
theorem dX6_seed_14 : decode cX6_seed 14 = .ok (.getfield 7, 3) := by decide +kernel
theorem dX6_seed_17 : decode cX6_seed 17 = .ok (.iconst 4, 1) := by decide +kernel
theorem dX6_seed_18 : decode cX6_seed 18 = .ok (.iload_n 1, 1) := by decide +kernel
theorem dX6_seed_19 : decode cX6_seed 19 = .ok (.iastore, 1) := by decide +kernel
theorem dX6_seed_20 : decode cX6_seed 20 = .ok (.iload_n 2, 1) := by decide +kernel
theorem dX6_seed_21 : decode cX6_seed 21 = .ok (.ireturn, 1) := by decide +kernel
theorem dX6_gainOf_0 : decode cX6_gainOf 0 = .ok (.aload_n 0, 1) := by decide +kernel
theorem dX6_gainOf_1 : decode cX6_gainOf 1 = .ok (.invokevirtual 95, 3) := by decide +kernel
theorem dX6_gainOf_4 : decode cX6_gainOf 4 = .ok (.istore 4, 2) := by decide +kernel
theorem dX6_gainOf_6 : decode cX6_gainOf 6 = .ok (.aload_n 0, 1) := by decide +kernel
theorem dX6_gainOf_7 : decode cX6_gainOf 7 = .ok (.iload_n 1, 1) := by decide +kernel
theorem dX6_gainOf_8 : decode cX6_gainOf 8 = .ok (.iload_n 2, 1) := by decide +kernel
theorem dX6_gainOf_9 : decode cX6_gainOf 9 = .ok (.iload_n 3, 1) := by decide +kernel
theorem dX6_gainOf_10 : decode cX6_gainOf 10 = .ok (.invokevirtual 165, 3) := by decide +kernel
theorem dX6_gainOf_13 : decode cX6_gainOf 13 = .ok (.aload_n 0, 1) := by decide +kernel
theorem dX6_gainOf_14 : decode cX6_gainOf 14 = .ok (.invokevirtual 95, 3) := by decide +kernel
theorem dX6_gainOf_17 : decode cX6_gainOf 17 = .ok (.iload 4, 2) := by decide +kernel
theorem dX6_gainOf_19 : decode cX6_gainOf 19 = .ok (.isub, 1) := by decide +kernel
theorem dX6_gainOf_20 : decode cX6_gainOf 20 = .ok (.istore 5, 2) := by decide +kernel
theorem dX6_gainOf_22 : decode cX6_gainOf 22 = .ok (.aload_n 0, 1) := by decide +kernel
theorem dX6_gainOf_23 : decode cX6_gainOf 23 = .ok (.iload_n 2, 1) := by decide +kernel
theorem dX6_gainOf_24 : decode cX6_gainOf 24 = .ok (.iload_n 1, 1) := by decide +kernel
theorem dX6_gainOf_25 : decode cX6_gainOf 25 = .ok (.iload_n 3, 1) := by decide +kernel
theorem dX6_gainOf_26 : decode cX6_gainOf 26 = .ok (.invokevirtual 165, 3) := by decide +kernel
theorem dX6_gainOf_29 : decode cX6_gainOf 29 = .ok (.iload 5, 2) := by decide +kernel
theorem dX6_gainOf_31 : decode cX6_gainOf 31 = .ok (.ireturn, 1) := by decide +kernel
theorem dX6_gain_0 : decode cX6_gain 0 = .ok (.aload_n 0, 1) := by decide +kernel
theorem dX6_gain_1 : decode cX6_gain 1 = .ok (.iload_n 1, 1) := by decide +kernel
theorem dX6_gain_2 : decode cX6_gain 2 = .ok (.iload_n 2, 1) := by decide +kernel
theorem dX6_gain_3 : decode cX6_gain 3 = .ok (.invokevirtual 154, 3) := by decide +kernel
theorem dX6_gain_6 : decode cX6_gain 6 = .ok (.ifCond .eq 10, 3) := by decide +kernel
theorem dX6_gain_9 : decode cX6_gain 9 = .ok (.iload_n 3, 1) := by decide +kernel
theorem dX6_gain_10 : decode cX6_gain 10 = .ok (.invokestatic 92, 3) := by decide +kernel
theorem dX6_gain_13 : decode cX6_gain 13 = .ok (.ifCond .ne 5, 3) := by decide +kernel
theorem dX6_gain_16 : decode cX6_gain 16 = .ok (.iconst (-1), 1) := by decide +kernel
theorem dX6_gain_17 : decode cX6_gain 17 = .ok (.ireturn, 1) := by decide +kernel
theorem dX6_gain_18 : decode cX6_gain 18 = .ok (.aload_n 0, 1) := by decide +kernel
theorem dX6_gain_19 : decode cX6_gain 19 = .ok (.iload_n 1, 1) := by decide +kernel
theorem dX6_gain_20 : decode cX6_gain 20 = .ok (.iload_n 3, 1) := by decide +kernel
theorem dX6_gain_21 : decode cX6_gain 21 = .ok (.invokevirtual 51, 3) := by decide +kernel
theorem dX6_gain_24 : decode cX6_gain 24 = .ok (.ifCond .eq 17, 3) := by decide +kernel
theorem dX6_gain_27 : decode cX6_gain 27 = .ok (.sipush 1000, 3) := by decide +kernel
theorem dX6_gain_30 : decode cX6_gain 30 = .ok (.aload_n 0, 1) := by decide +kernel
theorem dX6_gain_31 : decode cX6_gain 31 = .ok (.iload_n 1, 1) := by decide +kernel
theorem dX6_gain_32 : decode cX6_gain 32 = .ok (.iload_n 2, 1) := by decide +kernel
theorem dX6_gain_33 : decode cX6_gain 33 = .ok (.iload_n 3, 1) := by decide +kernel
theorem dX6_gain_34 : decode cX6_gain 34 = .ok (.invokevirtual 188, 3) := by decide +kernel
theorem dX6_gain_37 : decode cX6_gain 37 = .ok (.iadd, 1) := by decide +kernel
theorem dX6_gain_38 : decode cX6_gain 38 = .ok (.goto 5, 3) := by decide +kernel
theorem dX6_gain_41 : decode cX6_gain 41 = .ok (.bipush (-2), 2) := by decide +kernel
theorem dX6_gain_43 : decode cX6_gain 43 = .ok (.ireturn, 1) := by decide +kernel
theorem dX6_middle_0 : decode cX6_middle 0 = .ok (.aload_n 0, 1) := by decide +kernel
theorem dX6_middle_1 : decode cX6_middle 1 = .ok (.iload_n 1, 1) := by decide +kernel
theorem dX6_middle_2 : decode cX6_middle 2 = .ok (.iload_n 2, 1) := by decide +kernel
theorem dX6_middle_3 : decode cX6_middle 3 = .ok (.invokevirtual 154, 3) := by decide +kernel
theorem dX6_middle_6 : decode cX6_middle 6 = .ok (.ifCond .eq 10, 3) := by decide +kernel
theorem dX6_middle_9 : decode cX6_middle 9 = .ok (.iload_n 3, 1) := by decide +kernel
theorem dX6_middle_10 : decode cX6_middle 10 = .ok (.invokestatic 92, 3) := by decide +kernel
theorem dX6_middle_13 : decode cX6_middle 13 = .ok (.ifCond .ne 5, 3) := by decide +kernel
theorem dX6_middle_16 : decode cX6_middle 16 = .ok (.iconst (-1), 1) := by decide +kernel
theorem dX6_middle_17 : decode cX6_middle 17 = .ok (.ireturn, 1) := by decide +kernel
theorem dX6_middle_18 : decode cX6_middle 18 = .ok (.aload_n 0, 1) := by decide +kernel
theorem dX6_middle_19 : decode cX6_middle 19 = .ok (.iload_n 1, 1) := by decide +kernel
theorem dX6_middle_20 : decode cX6_middle 20 = .ok (.iload_n 3, 1) := by decide +kernel
theorem dX6_middle_21 : decode cX6_middle 21 = .ok (.invokevirtual 51, 3) := by decide +kernel
theorem dX6_middle_24 : decode cX6_middle 24 = .ok (.ifCond .eq 13, 3) := by decide +kernel
theorem dX6_middle_27 : decode cX6_middle 27 = .ok (.aload_n 0, 1) := by decide +kernel
theorem dX6_middle_28 : decode cX6_middle 28 = .ok (.iload_n 1, 1) := by decide +kernel
theorem dX6_middle_29 : decode cX6_middle 29 = .ok (.iload_n 2, 1) := by decide +kernel
theorem dX6_middle_30 : decode cX6_middle 30 = .ok (.iload_n 3, 1) := by decide +kernel
theorem dX6_middle_31 : decode cX6_middle 31 = .ok (.invokevirtual 172, 3) := by decide +kernel
theorem dX6_middle_34 : decode cX6_middle 34 = .ok (.goto 5, 3) := by decide +kernel
theorem dX6_middle_37 : decode cX6_middle 37 = .ok (.bipush (-2), 2) := by decide +kernel
theorem dX6_middle_39 : decode cX6_middle 39 = .ok (.ireturn, 1) := by decide +kernel
theorem dX6_bestSale_0 : decode cX6_bestSale 0 = .ok (.bipush (-4), 2) := by decide +kernel
theorem dX6_bestSale_2 : decode cX6_bestSale 2 = .ok (.istore_n 1, 1) := by decide +kernel
theorem dX6_bestSale_3 : decode cX6_bestSale 3 = .ok (.aload_n 0, 1) := by decide +kernel
theorem dX6_bestSale_4 : decode cX6_bestSale 4 = .ok (.iconst 0, 1) := by decide +kernel
theorem dX6_bestSale_5 : decode cX6_bestSale 5 = .ok (.putfield 191, 3) := by decide +kernel
theorem dX6_bestSale_8 : decode cX6_bestSale 8 = .ok (.iconst 0, 1) := by decide +kernel
theorem dX6_bestSale_9 : decode cX6_bestSale 9 = .ok (.istore_n 2, 1) := by decide +kernel
theorem dX6_bestSale_10 : decode cX6_bestSale 10 = .ok (.iload_n 2, 1) := by decide +kernel
theorem dX6_bestSale_11 : decode cX6_bestSale 11 = .ok (.aload_n 0, 1) := by decide +kernel
theorem dX6_bestSale_12 : decode cX6_bestSale 12 = .ok (.getfield 7, 3) := by decide +kernel
theorem dX6_bestSale_15 : decode cX6_bestSale 15 = .ok (.iconst 0, 1) := by decide +kernel
theorem dX6_bestSale_16 : decode cX6_bestSale 16 = .ok (.iaload, 1) := by decide +kernel
theorem dX6_bestSale_17 : decode cX6_bestSale 17 = .ok (.if_icmp .ge 121, 3) := by decide +kernel
theorem dX6_bestSale_20 : decode cX6_bestSale 20 = .ok (.iconst 0, 1) := by decide +kernel
theorem dX6_bestSale_21 : decode cX6_bestSale 21 = .ok (.istore_n 3, 1) := by decide +kernel
theorem dX6_bestSale_22 : decode cX6_bestSale 22 = .ok (.iload_n 3, 1) := by decide +kernel
theorem dX6_bestSale_23 : decode cX6_bestSale 23 = .ok (.aload_n 0, 1) := by decide +kernel
theorem dX6_bestSale_24 : decode cX6_bestSale 24 = .ok (.getfield 7, 3) := by decide +kernel
theorem dX6_bestSale_27 : decode cX6_bestSale 27 = .ok (.iconst 0, 1) := by decide +kernel
theorem dX6_bestSale_28 : decode cX6_bestSale 28 = .ok (.iaload, 1) := by decide +kernel
theorem dX6_bestSale_29 : decode cX6_bestSale 29 = .ok (.if_icmp .ge 103, 3) := by decide +kernel
theorem dX6_bestSale_32 : decode cX6_bestSale 32 = .ok (.iconst 0, 1) := by decide +kernel
theorem dX6_bestSale_33 : decode cX6_bestSale 33 = .ok (.istore 4, 2) := by decide +kernel
theorem dX6_bestSale_35 : decode cX6_bestSale 35 = .ok (.iload 4, 2) := by decide +kernel
theorem dX6_bestSale_37 : decode cX6_bestSale 37 = .ok (.bipush 12, 2) := by decide +kernel
theorem dX6_bestSale_39 : decode cX6_bestSale 39 = .ok (.if_icmp .ge 87, 3) := by decide +kernel
theorem dX6_bestSale_42 : decode cX6_bestSale 42 = .ok (.iload_n 2, 1) := by decide +kernel
theorem dX6_bestSale_43 : decode cX6_bestSale 43 = .ok (.iload_n 3, 1) := by decide +kernel
theorem dX6_bestSale_44 : decode cX6_bestSale 44 = .ok (.if_icmp .eq 24, 3) := by decide +kernel
theorem dX6_bestSale_47 : decode cX6_bestSale 47 = .ok (.aload_n 0, 1) := by decide +kernel
theorem dX6_bestSale_48 : decode cX6_bestSale 48 = .ok (.iload_n 2, 1) := by decide +kernel
theorem dX6_bestSale_49 : decode cX6_bestSale 49 = .ok (.iload 4, 2) := by decide +kernel
theorem dX6_bestSale_51 : decode cX6_bestSale 51 = .ok (.invokevirtual 159, 3) := by decide +kernel
theorem dX6_bestSale_54 : decode cX6_bestSale 54 = .ok (.ifCond .eq 14, 3) := by decide +kernel
theorem dX6_bestSale_57 : decode cX6_bestSale 57 = .ok (.aload_n 0, 1) := by decide +kernel
theorem dX6_bestSale_58 : decode cX6_bestSale 58 = .ok (.iload_n 2, 1) := by decide +kernel
theorem dX6_bestSale_59 : decode cX6_bestSale 59 = .ok (.iload_n 3, 1) := by decide +kernel
theorem dX6_bestSale_60 : decode cX6_bestSale 60 = .ok (.iload 4, 2) := by decide +kernel
theorem dX6_bestSale_62 : decode cX6_bestSale 62 = .ok (.invokevirtual 188, 3) := by decide +kernel
theorem dX6_bestSale_65 : decode cX6_bestSale 65 = .ok (.goto 4, 3) := by decide +kernel
theorem dX6_bestSale_68 : decode cX6_bestSale 68 = .ok (.iconst 0, 1) := by decide +kernel
theorem dX6_bestSale_69 : decode cX6_bestSale 69 = .ok (.istore 5, 2) := by decide +kernel
theorem dX6_bestSale_71 : decode cX6_bestSale 71 = .ok (.iload 5, 2) := by decide +kernel
theorem dX6_bestSale_73 : decode cX6_bestSale 73 = .ok (.aload_n 0, 1) := by decide +kernel
theorem dX6_bestSale_74 : decode cX6_bestSale 74 = .ok (.getfield 191, 3) := by decide +kernel
theorem dX6_bestSale_77 : decode cX6_bestSale 77 = .ok (.if_icmp .le 19, 3) := by decide +kernel
theorem dX6_bestSale_80 : decode cX6_bestSale 80 = .ok (.sipush 1000, 3) := by decide +kernel
theorem dX6_bestSale_83 : decode cX6_bestSale 83 = .ok (.iload_n 2, 1) := by decide +kernel
theorem dX6_bestSale_84 : decode cX6_bestSale 84 = .ok (.imul, 1) := by decide +kernel
theorem dX6_bestSale_85 : decode cX6_bestSale 85 = .ok (.bipush 100, 2) := by decide +kernel
theorem dX6_bestSale_87 : decode cX6_bestSale 87 = .ok (.iload_n 3, 1) := by decide +kernel
theorem dX6_bestSale_88 : decode cX6_bestSale 88 = .ok (.imul, 1) := by decide +kernel
theorem dX6_bestSale_89 : decode cX6_bestSale 89 = .ok (.iadd, 1) := by decide +kernel
theorem dX6_bestSale_90 : decode cX6_bestSale 90 = .ok (.iload 4, 2) := by decide +kernel
theorem dX6_bestSale_92 : decode cX6_bestSale 92 = .ok (.iadd, 1) := by decide +kernel
theorem dX6_bestSale_93 : decode cX6_bestSale 93 = .ok (.goto 4, 3) := by decide +kernel
theorem dX6_bestSale_96 : decode cX6_bestSale 96 = .ok (.iload_n 1, 1) := by decide +kernel
theorem dX6_bestSale_97 : decode cX6_bestSale 97 = .ok (.istore_n 1, 1) := by decide +kernel
theorem dX6_bestSale_98 : decode cX6_bestSale 98 = .ok (.aload_n 0, 1) := by decide +kernel
theorem dX6_bestSale_99 : decode cX6_bestSale 99 = .ok (.iload 5, 2) := by decide +kernel
theorem dX6_bestSale_101 : decode cX6_bestSale 101 = .ok (.aload_n 0, 1) := by decide +kernel
theorem dX6_bestSale_102 : decode cX6_bestSale 102 = .ok (.getfield 191, 3) := by decide +kernel
theorem dX6_bestSale_105 : decode cX6_bestSale 105 = .ok (.if_icmp .le 8, 3) := by decide +kernel
theorem dX6_bestSale_108 : decode cX6_bestSale 108 = .ok (.iload 5, 2) := by decide +kernel
theorem dX6_bestSale_110 : decode cX6_bestSale 110 = .ok (.goto 7, 3) := by decide +kernel
theorem dX6_bestSale_113 : decode cX6_bestSale 113 = .ok (.aload_n 0, 1) := by decide +kernel
theorem dX6_bestSale_114 : decode cX6_bestSale 114 = .ok (.getfield 191, 3) := by decide +kernel
theorem dX6_bestSale_117 : decode cX6_bestSale 117 = .ok (.putfield 191, 3) := by decide +kernel
theorem dX6_bestSale_120 : decode cX6_bestSale 120 = .ok (.iinc 4 1, 3) := by decide +kernel
theorem dX6_bestSale_123 : decode cX6_bestSale 123 = .ok (.goto (-88), 3) := by decide +kernel
theorem dX6_bestSale_126 : decode cX6_bestSale 126 = .ok (.iinc 3 1, 3) := by decide +kernel
theorem dX6_bestSale_129 : decode cX6_bestSale 129 = .ok (.goto (-107), 3) := by decide +kernel
theorem dX6_bestSale_132 : decode cX6_bestSale 132 = .ok (.iinc 2 1, 3) := by decide +kernel
theorem dX6_bestSale_135 : decode cX6_bestSale 135 = .ok (.goto (-125), 3) := by decide +kernel
theorem dX6_bestSale_138 : decode cX6_bestSale 138 = .ok (.iload_n 1, 1) := by decide +kernel
theorem dX6_bestSale_139 : decode cX6_bestSale 139 = .ok (.ireturn, 1) := by decide +kernel
theorem dX6_best_0 : decode cX6_best 0 = .ok (.iload_n 1, 1) := by decide +kernel
theorem dX6_best_1 : decode cX6_best 1 = .ok (.i2l, 1) := by decide +kernel
theorem dX6_best_2 : decode cX6_best 2 = .ok (.lconst 0, 1) := by decide +kernel
theorem dX6_best_3 : decode cX6_best 3 = .ok (.lconst 1, 1) := by decide +kernel
theorem dX6_best_4 : decode cX6_best 4 = .ok (.invokestatic 41, 3) := by decide +kernel
theorem dX6_best_7 : decode cX6_best 7 = .ok (.ifCond .ne 5, 3) := by decide +kernel
theorem dX6_best_10 : decode cX6_best 10 = .ok (.iconst (-1), 1) := by decide +kernel
theorem dX6_best_11 : decode cX6_best 11 = .ok (.ireturn, 1) := by decide +kernel
theorem dX6_best_12 : decode cX6_best 12 = .ok (.aload_n 0, 1) := by decide +kernel
theorem dX6_best_13 : decode cX6_best 13 = .ok (.invokevirtual 194, 3) := by decide +kernel
theorem dX6_best_16 : decode cX6_best 16 = .ok (.istore_n 2, 1) := by decide +kernel
theorem dX6_best_17 : decode cX6_best 17 = .ok (.iload_n 1, 1) := by decide +kernel
theorem dX6_best_18 : decode cX6_best 18 = .ok (.ifCond .eq 9, 3) := by decide +kernel
theorem dX6_best_21 : decode cX6_best 21 = .ok (.iload_n 2, 1) := by decide +kernel
theorem dX6_best_22 : decode cX6_best 22 = .ok (.bipush (-4), 2) := by decide +kernel
theorem dX6_best_24 : decode cX6_best 24 = .ok (.if_icmp .ne 7, 3) := by decide +kernel
theorem dX6_best_27 : decode cX6_best 27 = .ok (.iload_n 2, 1) := by decide +kernel
theorem dX6_best_28 : decode cX6_best 28 = .ok (.goto 7, 3) := by decide +kernel
theorem dX6_best_31 : decode cX6_best 31 = .ok (.aload_n 0, 1) := by decide +kernel
theorem dX6_best_32 : decode cX6_best 32 = .ok (.getfield 191, 3) := by decide +kernel
theorem dX6_best_35 : decode cX6_best 35 = .ok (.ireturn, 1) := by decide +kernel
theorem dX6_asides_0 : decode cX6_asides 0 = .ok (.iconst 0, 1) := by decide +kernel
theorem dX6_asides_1 : decode cX6_asides 1 = .ok (.istore_n 1, 1) := by decide +kernel
theorem dX6_asides_2 : decode cX6_asides 2 = .ok (.iload_n 1, 1) := by decide +kernel
theorem dX6_asides_3 : decode cX6_asides 3 = .ok (.bipush 95, 2) := by decide +kernel
theorem dX6_asides_5 : decode cX6_asides 5 = .ok (.if_icmp .ge 21, 3) := by decide +kernel
theorem dX6_asides_8 : decode cX6_asides 8 = .ok (.aload_n 0, 1) := by decide +kernel
theorem dX6_asides_9 : decode cX6_asides 9 = .ok (.getfield 22, 3) := by decide +kernel
theorem dX6_asides_12 : decode cX6_asides 12 = .ok (.iload_n 1, 1) := by decide +kernel
theorem dX6_asides_13 : decode cX6_asides 13 = .ok (.aload_n 0, 1) := by decide +kernel
theorem dX6_asides_14 : decode cX6_asides 14 = .ok (.getfield 7, 3) := by decide +kernel
theorem dX6_asides_17 : decode cX6_asides 17 = .ok (.iload_n 1, 1) := by decide +kernel
theorem dX6_asides_18 : decode cX6_asides 18 = .ok (.iaload, 1) := by decide +kernel
theorem dX6_asides_19 : decode cX6_asides 19 = .ok (.iastore, 1) := by decide +kernel
theorem dX6_asides_20 : decode cX6_asides 20 = .ok (.iinc 1 1, 3) := by decide +kernel
theorem dX6_asides_23 : decode cX6_asides 23 = .ok (.goto (-21), 3) := by decide +kernel
theorem dX6_asides_26 : decode cX6_asides 26 = .ok (.return_, 1) := by decide +kernel
theorem dX6_backs_0 : decode cX6_backs 0 = .ok (.iconst 0, 1) := by decide +kernel
theorem dX6_backs_1 : decode cX6_backs 1 = .ok (.istore_n 1, 1) := by decide +kernel
theorem dX6_backs_2 : decode cX6_backs 2 = .ok (.iload_n 1, 1) := by decide +kernel
theorem dX6_backs_3 : decode cX6_backs 3 = .ok (.bipush 95, 2) := by decide +kernel
theorem dX6_backs_5 : decode cX6_backs 5 = .ok (.if_icmp .ge 21, 3) := by decide +kernel
theorem dX6_backs_8 : decode cX6_backs 8 = .ok (.aload_n 0, 1) := by decide +kernel
theorem dX6_backs_9 : decode cX6_backs 9 = .ok (.getfield 7, 3) := by decide +kernel
theorem dX6_backs_12 : decode cX6_backs 12 = .ok (.iload_n 1, 1) := by decide +kernel
theorem dX6_backs_13 : decode cX6_backs 13 = .ok (.aload_n 0, 1) := by decide +kernel
theorem dX6_backs_14 : decode cX6_backs 14 = .ok (.getfield 22, 3) := by decide +kernel
theorem dX6_backs_17 : decode cX6_backs 17 = .ok (.iload_n 1, 1) := by decide +kernel
theorem dX6_backs_18 : decode cX6_backs 18 = .ok (.iaload, 1) := by decide +kernel
theorem dX6_backs_19 : decode cX6_backs 19 = .ok (.iastore, 1) := by decide +kernel
theorem dX6_backs_20 : decode cX6_backs 20 = .ok (.iinc 1 1, 3) := by decide +kernel
theorem dX6_backs_23 : decode cX6_backs 23 = .ok (.goto (-21), 3) := by decide +kernel
theorem dX6_backs_26 : decode cX6_backs 26 = .ok (.return_, 1) := by decide +kernel
theorem dX6_market_0 : decode cX6_market 0 = .ok (.iload_n 1, 1) := by decide +kernel
theorem dX6_market_1 : decode cX6_market 1 = .ok (.i2l, 1) := by decide +kernel
theorem dX6_market_2 : decode cX6_market 2 = .ok (.lconst 0, 1) := by decide +kernel
theorem dX6_market_3 : decode cX6_market 3 = .ok (.lconst 1, 1) := by decide +kernel
theorem dX6_market_4 : decode cX6_market 4 = .ok (.invokestatic 41, 3) := by decide +kernel
theorem dX6_market_7 : decode cX6_market 7 = .ok (.ifCond .ne 5, 3) := by decide +kernel
theorem dX6_market_10 : decode cX6_market 10 = .ok (.iconst (-1), 1) := by decide +kernel
theorem dX6_market_11 : decode cX6_market 11 = .ok (.ireturn, 1) := by decide +kernel
theorem dX6_market_12 : decode cX6_market 12 = .ok (.aload_n 0, 1) := by decide +kernel
theorem dX6_market_13 : decode cX6_market 13 = .ok (.invokevirtual 197, 3) := by decide +kernel
theorem dX6_market_16 : decode cX6_market 16 = .ok (.iconst 0, 1) := by decide +kernel
theorem dX6_market_17 : decode cX6_market 17 = .ok (.istore_n 2, 1) := by decide +kernel
theorem dX6_market_18 : decode cX6_market 18 = .ok (.aload_n 0, 1) := by decide +kernel
theorem dX6_market_19 : decode cX6_market 19 = .ok (.invokevirtual 194, 3) := by decide +kernel
theorem dX6_market_22 : decode cX6_market 22 = .ok (.istore_n 3, 1) := by decide +kernel
theorem dX6_market_23 : decode cX6_market 23 = .ok (.iload_n 3, 1) := by decide +kernel
theorem dX6_market_24 : decode cX6_market 24 = .ok (.bipush (-4), 2) := by decide +kernel
theorem dX6_market_26 : decode cX6_market 26 = .ok (.if_icmp .eq 34, 3) := by decide +kernel
theorem dX6_market_29 : decode cX6_market 29 = .ok (.aload_n 0, 1) := by decide +kernel
theorem dX6_market_30 : decode cX6_market 30 = .ok (.iload_n 3, 1) := by decide +kernel
theorem dX6_market_31 : decode cX6_market 31 = .ok (.sipush 1000, 3) := by decide +kernel
theorem dX6_market_34 : decode cX6_market 34 = .ok (.idiv, 1) := by decide +kernel
theorem dX6_market_35 : decode cX6_market 35 = .ok (.iload_n 3, 1) := by decide +kernel
theorem dX6_market_36 : decode cX6_market 36 = .ok (.bipush 100, 2) := by decide +kernel
theorem dX6_market_38 : decode cX6_market 38 = .ok (.idiv, 1) := by decide +kernel
theorem dX6_market_39 : decode cX6_market 39 = .ok (.bipush 10, 2) := by decide +kernel
theorem dX6_market_41 : decode cX6_market 41 = .ok (.irem, 1) := by decide +kernel
theorem dX6_market_42 : decode cX6_market 42 = .ok (.iload_n 3, 1) := by decide +kernel
theorem dX6_market_43 : decode cX6_market 43 = .ok (.bipush 100, 2) := by decide +kernel
theorem dX6_market_45 : decode cX6_market 45 = .ok (.irem, 1) := by decide +kernel
theorem dX6_market_46 : decode cX6_market 46 = .ok (.invokevirtual 165, 3) := by decide +kernel
theorem dX6_market_49 : decode cX6_market 49 = .ok (.iinc 2 1, 3) := by decide +kernel
theorem dX6_market_52 : decode cX6_market 52 = .ok (.aload_n 0, 1) := by decide +kernel
theorem dX6_market_53 : decode cX6_market 53 = .ok (.invokevirtual 194, 3) := by decide +kernel
theorem dX6_market_56 : decode cX6_market 56 = .ok (.istore_n 3, 1) := by decide +kernel
theorem dX6_market_57 : decode cX6_market 57 = .ok (.goto (-34), 3) := by decide +kernel
theorem dX6_market_60 : decode cX6_market 60 = .ok (.aload_n 0, 1) := by decide +kernel
theorem dX6_market_61 : decode cX6_market 61 = .ok (.invokevirtual 95, 3) := by decide +kernel
theorem dX6_market_64 : decode cX6_market 64 = .ok (.istore 4, 2) := by decide +kernel
theorem dX6_market_66 : decode cX6_market 66 = .ok (.aload_n 0, 1) := by decide +kernel
theorem dX6_market_67 : decode cX6_market 67 = .ok (.invokevirtual 200, 3) := by decide +kernel
theorem dX6_market_70 : decode cX6_market 70 = .ok (.iload_n 1, 1) := by decide +kernel
theorem dX6_market_71 : decode cX6_market 71 = .ok (.ifCond .ne 7, 3) := by decide +kernel
theorem dX6_market_74 : decode cX6_market 74 = .ok (.iload_n 2, 1) := by decide +kernel
theorem dX6_market_75 : decode cX6_market 75 = .ok (.goto 5, 3) := by decide +kernel
theorem dX6_market_78 : decode cX6_market 78 = .ok (.iload 4, 2) := by decide +kernel
theorem dX6_market_80 : decode cX6_market 80 = .ok (.ireturn, 1) := by decide +kernel
theorem dX6_longest_0 : decode cX6_longest 0 = .ok (.aload_n 0, 1) := by decide +kernel
theorem dX6_longest_1 : decode cX6_longest 1 = .ok (.iload_n 1, 1) := by decide +kernel
theorem dX6_longest_2 : decode cX6_longest 2 = .ok (.invokevirtual 78, 3) := by decide +kernel
theorem dX6_longest_5 : decode cX6_longest 5 = .ok (.ifCond .eq 13, 3) := by decide +kernel
theorem dX6_longest_8 : decode cX6_longest 8 = .ok (.iload_n 2, 1) := by decide +kernel
theorem dX6_longest_9 : decode cX6_longest 9 = .ok (.i2l, 1) := by decide +kernel
theorem dX6_longest_10 : decode cX6_longest 10 = .ok (.lconst 0, 1) := by decide +kernel
theorem dX6_longest_11 : decode cX6_longest 11 = .ok (.lconst 1, 1) := by decide +kernel
theorem dX6_longest_12 : decode cX6_longest 12 = .ok (.invokestatic 41, 3) := by decide +kernel
theorem dX6_longest_15 : decode cX6_longest 15 = .ok (.ifCond .ne 5, 3) := by decide +kernel
theorem dX6_longest_18 : decode cX6_longest 18 = .ok (.iconst (-1), 1) := by decide +kernel
theorem dX6_longest_19 : decode cX6_longest 19 = .ok (.ireturn, 1) := by decide +kernel
theorem dX6_longest_20 : decode cX6_longest 20 = .ok (.iconst 0, 1) := by decide +kernel
theorem dX6_longest_21 : decode cX6_longest 21 = .ok (.istore_n 3, 1) := by decide +kernel
theorem dX6_longest_22 : decode cX6_longest 22 = .ok (.bipush (-4), 2) := by decide +kernel
theorem dX6_longest_24 : decode cX6_longest 24 = .ok (.istore 4, 2) := by decide +kernel
theorem dX6_longest_26 : decode cX6_longest 26 = .ok (.iconst 0, 1) := by decide +kernel
theorem dX6_longest_27 : decode cX6_longest 27 = .ok (.istore 5, 2) := by decide +kernel
theorem dX6_longest_29 : decode cX6_longest 29 = .ok (.iconst 0, 1) := by decide +kernel
theorem dX6_longest_30 : decode cX6_longest 30 = .ok (.istore 6, 2) := by decide +kernel
theorem dX6_longest_32 : decode cX6_longest 32 = .ok (.iload 6, 2) := by decide +kernel
theorem dX6_longest_34 : decode cX6_longest 34 = .ok (.bipush 12, 2) := by decide +kernel
theorem dX6_longest_36 : decode cX6_longest 36 = .ok (.if_icmp .ge 62, 3) := by decide +kernel
theorem dX6_longest_39 : decode cX6_longest 39 = .ok (.aload_n 0, 1) := by decide +kernel
theorem dX6_longest_40 : decode cX6_longest 40 = .ok (.iload_n 1, 1) := by decide +kernel
theorem dX6_longest_41 : decode cX6_longest 41 = .ok (.iload 6, 2) := by decide +kernel
theorem dX6_longest_43 : decode cX6_longest 43 = .ok (.invokevirtual 51, 3) := by decide +kernel
theorem dX6_longest_46 : decode cX6_longest 46 = .ok (.ifCond .eq 10, 3) := by decide +kernel
theorem dX6_longest_49 : decode cX6_longest 49 = .ok (.iload 5, 2) := by decide +kernel
theorem dX6_longest_51 : decode cX6_longest 51 = .ok (.iconst 1, 1) := by decide +kernel
theorem dX6_longest_52 : decode cX6_longest 52 = .ok (.iadd, 1) := by decide +kernel
theorem dX6_longest_53 : decode cX6_longest 53 = .ok (.goto 4, 3) := by decide +kernel
theorem dX6_longest_56 : decode cX6_longest 56 = .ok (.iconst 0, 1) := by decide +kernel
theorem dX6_longest_57 : decode cX6_longest 57 = .ok (.istore 5, 2) := by decide +kernel
theorem dX6_longest_59 : decode cX6_longest 59 = .ok (.iload 5, 2) := by decide +kernel
theorem dX6_longest_61 : decode cX6_longest 61 = .ok (.iload_n 3, 1) := by decide +kernel
theorem dX6_longest_62 : decode cX6_longest 62 = .ok (.if_icmp .le 13, 3) := by decide +kernel
theorem dX6_longest_65 : decode cX6_longest 65 = .ok (.iload 6, 2) := by decide +kernel
theorem dX6_longest_67 : decode cX6_longest 67 = .ok (.iload 5, 2) := by decide +kernel
theorem dX6_longest_69 : decode cX6_longest 69 = .ok (.isub, 1) := by decide +kernel
theorem dX6_longest_70 : decode cX6_longest 70 = .ok (.iconst 1, 1) := by decide +kernel
theorem dX6_longest_71 : decode cX6_longest 71 = .ok (.iadd, 1) := by decide +kernel
theorem dX6_longest_72 : decode cX6_longest 72 = .ok (.goto 5, 3) := by decide +kernel
theorem dX6_longest_75 : decode cX6_longest 75 = .ok (.iload 4, 2) := by decide +kernel
theorem dX6_longest_77 : decode cX6_longest 77 = .ok (.istore 4, 2) := by decide +kernel
theorem dX6_longest_79 : decode cX6_longest 79 = .ok (.iload 5, 2) := by decide +kernel
theorem dX6_longest_81 : decode cX6_longest 81 = .ok (.iload_n 3, 1) := by decide +kernel
theorem dX6_longest_82 : decode cX6_longest 82 = .ok (.if_icmp .le 8, 3) := by decide +kernel
theorem dX6_longest_85 : decode cX6_longest 85 = .ok (.iload 5, 2) := by decide +kernel
theorem dX6_longest_87 : decode cX6_longest 87 = .ok (.goto 4, 3) := by decide +kernel
theorem dX6_longest_90 : decode cX6_longest 90 = .ok (.iload_n 3, 1) := by decide +kernel
theorem dX6_longest_91 : decode cX6_longest 91 = .ok (.istore_n 3, 1) := by decide +kernel
theorem dX6_longest_92 : decode cX6_longest 92 = .ok (.iinc 6 1, 3) := by decide +kernel
theorem dX6_longest_95 : decode cX6_longest 95 = .ok (.goto (-63), 3) := by decide +kernel
theorem dX6_longest_98 : decode cX6_longest 98 = .ok (.iload_n 2, 1) := by decide +kernel
theorem dX6_longest_99 : decode cX6_longest 99 = .ok (.ifCond .ne 7, 3) := by decide +kernel
theorem dX6_longest_102 : decode cX6_longest 102 = .ok (.iload_n 3, 1) := by decide +kernel
theorem dX6_longest_103 : decode cX6_longest 103 = .ok (.goto 5, 3) := by decide +kernel
theorem dX6_longest_106 : decode cX6_longest 106 = .ok (.iload 4, 2) := by decide +kernel
theorem dX6_longest_108 : decode cX6_longest 108 = .ok (.ireturn, 1) := by decide +kernel
theorem dX6_stretch_0 : decode cX6_stretch 0 = .ok (.aload_n 0, 1) := by decide +kernel
theorem dX6_stretch_1 : decode cX6_stretch 1 = .ok (.iload_n 1, 1) := by decide +kernel
theorem dX6_stretch_2 : decode cX6_stretch 2 = .ok (.invokevirtual 78, 3) := by decide +kernel
theorem dX6_stretch_5 : decode cX6_stretch 5 = .ok (.ifCond .eq 25, 3) := by decide +kernel
theorem dX6_stretch_8 : decode cX6_stretch 8 = .ok (.iload_n 2, 1) := by decide +kernel
theorem dX6_stretch_9 : decode cX6_stretch 9 = .ok (.i2l, 1) := by decide +kernel
theorem dX6_stretch_10 : decode cX6_stretch 10 = .ok (.lconst 1, 1) := by decide +kernel
theorem dX6_stretch_11 : decode cX6_stretch 11 = .ok (.ldc2_w 82, 3) := by decide +kernel
theorem dX6_stretch_14 : decode cX6_stretch 14 = .ok (.invokestatic 41, 3) := by decide +kernel
theorem dX6_stretch_17 : decode cX6_stretch 17 = .ok (.ifCond .eq 13, 3) := by decide +kernel
theorem dX6_stretch_20 : decode cX6_stretch 20 = .ok (.iload_n 3, 1) := by decide +kernel
theorem dX6_stretch_21 : decode cX6_stretch 21 = .ok (.i2l, 1) := by decide +kernel
theorem dX6_stretch_22 : decode cX6_stretch 22 = .ok (.lconst 0, 1) := by decide +kernel
theorem dX6_stretch_23 : decode cX6_stretch 23 = .ok (.lconst 1, 1) := by decide +kernel
theorem dX6_stretch_24 : decode cX6_stretch 24 = .ok (.invokestatic 41, 3) := by decide +kernel
theorem dX6_stretch_27 : decode cX6_stretch 27 = .ok (.ifCond .ne 5, 3) := by decide +kernel
theorem dX6_stretch_30 : decode cX6_stretch 30 = .ok (.iconst (-1), 1) := by decide +kernel
theorem dX6_stretch_31 : decode cX6_stretch 31 = .ok (.ireturn, 1) := by decide +kernel
theorem dX6_stretch_32 : decode cX6_stretch 32 = .ok (.aload_n 0, 1) := by decide +kernel
theorem dX6_stretch_33 : decode cX6_stretch 33 = .ok (.iload_n 1, 1) := by decide +kernel
theorem dX6_stretch_34 : decode cX6_stretch 34 = .ok (.invokevirtual 86, 3) := by decide +kernel
theorem dX6_stretch_37 : decode cX6_stretch 37 = .ok (.istore 4, 2) := by decide +kernel
theorem dX6_stretch_39 : decode cX6_stretch 39 = .ok (.bipush 99, 2) := by decide +kernel
theorem dX6_stretch_41 : decode cX6_stretch 41 = .ok (.istore 5, 2) := by decide +kernel
theorem dX6_stretch_43 : decode cX6_stretch 43 = .ok (.iconst 0, 1) := by decide +kernel
theorem dX6_stretch_44 : decode cX6_stretch 44 = .ok (.istore 6, 2) := by decide +kernel
theorem dX6_stretch_46 : decode cX6_stretch 46 = .ok (.iconst 0, 1) := by decide +kernel
theorem dX6_stretch_47 : decode cX6_stretch 47 = .ok (.istore 7, 2) := by decide +kernel
theorem dX6_stretch_49 : decode cX6_stretch 49 = .ok (.iload 7, 2) := by decide +kernel
theorem dX6_stretch_51 : decode cX6_stretch 51 = .ok (.iload_n 2, 1) := by decide +kernel
theorem dX6_stretch_52 : decode cX6_stretch 52 = .ok (.iadd, 1) := by decide +kernel
theorem dX6_stretch_53 : decode cX6_stretch 53 = .ok (.bipush 12, 2) := by decide +kernel
theorem dX6_stretch_55 : decode cX6_stretch 55 = .ok (.if_icmp .gt 63, 3) := by decide +kernel
theorem dX6_stretch_58 : decode cX6_stretch 58 = .ok (.iconst 1, 1) := by decide +kernel
theorem dX6_stretch_59 : decode cX6_stretch 59 = .ok (.iload_n 2, 1) := by decide +kernel
theorem dX6_stretch_60 : decode cX6_stretch 60 = .ok (.ishl, 1) := by decide +kernel
theorem dX6_stretch_61 : decode cX6_stretch 61 = .ok (.iconst 1, 1) := by decide +kernel
theorem dX6_stretch_62 : decode cX6_stretch 62 = .ok (.isub, 1) := by decide +kernel
theorem dX6_stretch_63 : decode cX6_stretch 63 = .ok (.iload 7, 2) := by decide +kernel
theorem dX6_stretch_65 : decode cX6_stretch 65 = .ok (.ishl, 1) := by decide +kernel
theorem dX6_stretch_66 : decode cX6_stretch 66 = .ok (.istore 8, 2) := by decide +kernel
theorem dX6_stretch_68 : decode cX6_stretch 68 = .ok (.iload 8, 2) := by decide +kernel
theorem dX6_stretch_70 : decode cX6_stretch 70 = .ok (.iload 4, 2) := by decide +kernel
theorem dX6_stretch_72 : decode cX6_stretch 72 = .ok (.iconst (-1), 1) := by decide +kernel
theorem dX6_stretch_73 : decode cX6_stretch 73 = .ok (.ixor, 1) := by decide +kernel
theorem dX6_stretch_74 : decode cX6_stretch 74 = .ok (.iand, 1) := by decide +kernel
theorem dX6_stretch_75 : decode cX6_stretch 75 = .ok (.invokestatic 151, 3) := by decide +kernel
theorem dX6_stretch_78 : decode cX6_stretch 78 = .ok (.istore 9, 2) := by decide +kernel
theorem dX6_stretch_80 : decode cX6_stretch 80 = .ok (.iload 9, 2) := by decide +kernel
theorem dX6_stretch_82 : decode cX6_stretch 82 = .ok (.iload 5, 2) := by decide +kernel
theorem dX6_stretch_84 : decode cX6_stretch 84 = .ok (.if_icmp .ge 8, 3) := by decide +kernel
theorem dX6_stretch_87 : decode cX6_stretch 87 = .ok (.iload 7, 2) := by decide +kernel
theorem dX6_stretch_89 : decode cX6_stretch 89 = .ok (.goto 5, 3) := by decide +kernel
theorem dX6_stretch_92 : decode cX6_stretch 92 = .ok (.iload 6, 2) := by decide +kernel
theorem dX6_stretch_94 : decode cX6_stretch 94 = .ok (.istore 6, 2) := by decide +kernel
theorem dX6_stretch_96 : decode cX6_stretch 96 = .ok (.iload 9, 2) := by decide +kernel
theorem dX6_stretch_98 : decode cX6_stretch 98 = .ok (.iload 5, 2) := by decide +kernel
theorem dX6_stretch_100 : decode cX6_stretch 100 = .ok (.if_icmp .ge 8, 3) := by decide +kernel
theorem dX6_stretch_103 : decode cX6_stretch 103 = .ok (.iload 9, 2) := by decide +kernel
theorem dX6_stretch_105 : decode cX6_stretch 105 = .ok (.goto 5, 3) := by decide +kernel
theorem dX6_stretch_108 : decode cX6_stretch 108 = .ok (.iload 5, 2) := by decide +kernel
theorem dX6_stretch_110 : decode cX6_stretch 110 = .ok (.istore 5, 2) := by decide +kernel
theorem dX6_stretch_112 : decode cX6_stretch 112 = .ok (.iinc 7 1, 3) := by decide +kernel
theorem dX6_stretch_115 : decode cX6_stretch 115 = .ok (.goto (-66), 3) := by decide +kernel
theorem dX6_stretch_118 : decode cX6_stretch 118 = .ok (.iload_n 3, 1) := by decide +kernel
theorem dX6_stretch_119 : decode cX6_stretch 119 = .ok (.ifCond .ne 8, 3) := by decide +kernel
theorem dX6_stretch_122 : decode cX6_stretch 122 = .ok (.iload 5, 2) := by decide +kernel
theorem dX6_stretch_124 : decode cX6_stretch 124 = .ok (.goto 5, 3) := by decide +kernel
theorem dX6_stretch_127 : decode cX6_stretch 127 = .ok (.iload 6, 2) := by decide +kernel
theorem dX6_stretch_129 : decode cX6_stretch 129 = .ok (.ireturn, 1) := by decide +kernel
theorem dX6_more_0 : decode cX6_more 0 = .ok (.aload_n 0, 1) := by decide +kernel
theorem dX6_more_1 : decode cX6_more 1 = .ok (.iload_n 1, 1) := by decide +kernel
theorem dX6_more_2 : decode cX6_more 2 = .ok (.invokevirtual 78, 3) := by decide +kernel
theorem dX6_more_5 : decode cX6_more 5 = .ok (.ifCond .eq 38, 3) := by decide +kernel
theorem dX6_more_8 : decode cX6_more 8 = .ok (.iload_n 2, 1) := by decide +kernel
theorem dX6_more_9 : decode cX6_more 9 = .ok (.i2l, 1) := by decide +kernel
theorem dX6_more_10 : decode cX6_more 10 = .ok (.lconst 0, 1) := by decide +kernel
theorem dX6_more_11 : decode cX6_more 11 = .ok (.ldc2_w 72, 3) := by decide +kernel
theorem dX6_more_14 : decode cX6_more 14 = .ok (.invokestatic 41, 3) := by decide +kernel
theorem dX6_more_17 : decode cX6_more 17 = .ok (.ifCond .eq 26, 3) := by decide +kernel
theorem dX6_more_20 : decode cX6_more 20 = .ok (.iload_n 3, 1) := by decide +kernel
theorem dX6_more_21 : decode cX6_more 21 = .ok (.i2l, 1) := by decide +kernel
theorem dX6_more_22 : decode cX6_more 22 = .ok (.lconst 0, 1) := by decide +kernel
theorem dX6_more_23 : decode cX6_more 23 = .ok (.ldc2_w 203, 3) := by decide +kernel
theorem dX6_more_26 : decode cX6_more 26 = .ok (.invokestatic 41, 3) := by decide +kernel
theorem dX6_more_29 : decode cX6_more 29 = .ok (.ifCond .eq 14, 3) := by decide +kernel
theorem dX6_more_32 : decode cX6_more 32 = .ok (.iload 4, 2) := by decide +kernel
theorem dX6_more_34 : decode cX6_more 34 = .ok (.i2l, 1) := by decide +kernel
theorem dX6_more_35 : decode cX6_more 35 = .ok (.lconst 0, 1) := by decide +kernel
theorem dX6_more_36 : decode cX6_more 36 = .ok (.lconst 1, 1) := by decide +kernel
theorem dX6_more_37 : decode cX6_more 37 = .ok (.invokestatic 41, 3) := by decide +kernel
theorem dX6_more_40 : decode cX6_more 40 = .ok (.ifCond .ne 5, 3) := by decide +kernel
theorem dX6_more_43 : decode cX6_more 43 = .ok (.iconst (-1), 1) := by decide +kernel
theorem dX6_more_44 : decode cX6_more 44 = .ok (.ireturn, 1) := by decide +kernel
theorem dX6_more_45 : decode cX6_more 45 = .ok (.aload_n 0, 1) := by decide +kernel
theorem dX6_more_46 : decode cX6_more 46 = .ok (.iload_n 1, 1) := by decide +kernel
theorem dX6_more_47 : decode cX6_more 47 = .ok (.invokevirtual 86, 3) := by decide +kernel
theorem dX6_more_50 : decode cX6_more 50 = .ok (.istore 5, 2) := by decide +kernel
theorem dX6_more_52 : decode cX6_more 52 = .ok (.iconst 0, 1) := by decide +kernel
theorem dX6_more_53 : decode cX6_more 53 = .ok (.istore 6, 2) := by decide +kernel
theorem dX6_more_55 : decode cX6_more 55 = .ok (.aload_n 0, 1) := by decide +kernel
theorem dX6_more_56 : decode cX6_more 56 = .ok (.iload_n 1, 1) := by decide +kernel
theorem dX6_more_57 : decode cX6_more 57 = .ok (.invokevirtual 64, 3) := by decide +kernel
theorem dX6_more_60 : decode cX6_more 60 = .ok (.istore 7, 2) := by decide +kernel
theorem dX6_more_62 : decode cX6_more 62 = .ok (.aload_n 0, 1) := by decide +kernel
theorem dX6_more_63 : decode cX6_more 63 = .ok (.invokevirtual 197, 3) := by decide +kernel
theorem dX6_more_66 : decode cX6_more 66 = .ok (.iconst 1, 1) := by decide +kernel
theorem dX6_more_67 : decode cX6_more 67 = .ok (.istore 8, 2) := by decide +kernel
theorem dX6_more_69 : decode cX6_more 69 = .ok (.iload 8, 2) := by decide +kernel
theorem dX6_more_71 : decode cX6_more 71 = .ok (.sipush 4096, 3) := by decide +kernel
theorem dX6_more_74 : decode cX6_more 74 = .ok (.if_icmp .ge 107, 3) := by decide +kernel
theorem dX6_more_77 : decode cX6_more 77 = .ok (.iload 8, 2) := by decide +kernel
theorem dX6_more_79 : decode cX6_more 79 = .ok (.iload 5, 2) := by decide +kernel
theorem dX6_more_81 : decode cX6_more 81 = .ok (.iand, 1) := by decide +kernel
theorem dX6_more_82 : decode cX6_more 82 = .ok (.ifCond .ne 93, 3) := by decide +kernel
theorem dX6_more_85 : decode cX6_more 85 = .ok (.iload 8, 2) := by decide +kernel
theorem dX6_more_87 : decode cX6_more 87 = .ok (.invokestatic 151, 3) := by decide +kernel
theorem dX6_more_90 : decode cX6_more 90 = .ok (.iload_n 2, 1) := by decide +kernel
theorem dX6_more_91 : decode cX6_more 91 = .ok (.if_icmp .gt 84, 3) := by decide +kernel
theorem dX6_more_94 : decode cX6_more 94 = .ok (.iconst 0, 1) := by decide +kernel
theorem dX6_more_95 : decode cX6_more 95 = .ok (.istore 9, 2) := by decide +kernel
theorem dX6_more_97 : decode cX6_more 97 = .ok (.iload 9, 2) := by decide +kernel
theorem dX6_more_99 : decode cX6_more 99 = .ok (.bipush 12, 2) := by decide +kernel
theorem dX6_more_101 : decode cX6_more 101 = .ok (.if_icmp .ge 23, 3) := by decide +kernel
theorem dX6_more_104 : decode cX6_more 104 = .ok (.aload_n 0, 1) := by decide +kernel
theorem dX6_more_105 : decode cX6_more 105 = .ok (.iload_n 1, 1) := by decide +kernel
theorem dX6_more_106 : decode cX6_more 106 = .ok (.iload 9, 2) := by decide +kernel
theorem dX6_more_108 : decode cX6_more 108 = .ok (.iload 8, 2) := by decide +kernel
theorem dX6_more_110 : decode cX6_more 110 = .ok (.iload 9, 2) := by decide +kernel
theorem dX6_more_112 : decode cX6_more 112 = .ok (.ishr, 1) := by decide +kernel
theorem dX6_more_113 : decode cX6_more 113 = .ok (.iconst 1, 1) := by decide +kernel
theorem dX6_more_114 : decode cX6_more 114 = .ok (.iand, 1) := by decide +kernel
theorem dX6_more_115 : decode cX6_more 115 = .ok (.invokevirtual 148, 3) := by decide +kernel
theorem dX6_more_118 : decode cX6_more 118 = .ok (.iinc 9 1, 3) := by decide +kernel
theorem dX6_more_121 : decode cX6_more 121 = .ok (.goto (-24), 3) := by decide +kernel
theorem dX6_more_124 : decode cX6_more 124 = .ok (.aload_n 0, 1) := by decide +kernel
theorem dX6_more_125 : decode cX6_more 125 = .ok (.iload_n 1, 1) := by decide +kernel
theorem dX6_more_126 : decode cX6_more 126 = .ok (.invokevirtual 64, 3) := by decide +kernel
theorem dX6_more_129 : decode cX6_more 129 = .ok (.iload_n 3, 1) := by decide +kernel
theorem dX6_more_130 : decode cX6_more 130 = .ok (.iload 8, 2) := by decide +kernel
theorem dX6_more_132 : decode cX6_more 132 = .ok (.invokestatic 151, 3) := by decide +kernel
theorem dX6_more_135 : decode cX6_more 135 = .ok (.imul, 1) := by decide +kernel
theorem dX6_more_136 : decode cX6_more 136 = .ok (.isub, 1) := by decide +kernel
theorem dX6_more_137 : decode cX6_more 137 = .ok (.istore 9, 2) := by decide +kernel
theorem dX6_more_139 : decode cX6_more 139 = .ok (.iload 9, 2) := by decide +kernel
theorem dX6_more_141 : decode cX6_more 141 = .ok (.iload 7, 2) := by decide +kernel
theorem dX6_more_143 : decode cX6_more 143 = .ok (.if_icmp .le 8, 3) := by decide +kernel
theorem dX6_more_146 : decode cX6_more 146 = .ok (.iload 8, 2) := by decide +kernel
theorem dX6_more_148 : decode cX6_more 148 = .ok (.goto 5, 3) := by decide +kernel
theorem dX6_more_151 : decode cX6_more 151 = .ok (.iload 6, 2) := by decide +kernel
theorem dX6_more_153 : decode cX6_more 153 = .ok (.istore 6, 2) := by decide +kernel
theorem dX6_more_155 : decode cX6_more 155 = .ok (.iload 9, 2) := by decide +kernel
theorem dX6_more_157 : decode cX6_more 157 = .ok (.iload 7, 2) := by decide +kernel
theorem dX6_more_159 : decode cX6_more 159 = .ok (.if_icmp .le 8, 3) := by decide +kernel
theorem dX6_more_162 : decode cX6_more 162 = .ok (.iload 9, 2) := by decide +kernel
theorem dX6_more_164 : decode cX6_more 164 = .ok (.goto 5, 3) := by decide +kernel
theorem dX6_more_167 : decode cX6_more 167 = .ok (.iload 7, 2) := by decide +kernel
theorem dX6_more_169 : decode cX6_more 169 = .ok (.istore 7, 2) := by decide +kernel
theorem dX6_more_171 : decode cX6_more 171 = .ok (.aload_n 0, 1) := by decide +kernel
theorem dX6_more_172 : decode cX6_more 172 = .ok (.invokevirtual 200, 3) := by decide +kernel
theorem dX6_more_175 : decode cX6_more 175 = .ok (.iinc 8 1, 3) := by decide +kernel
theorem dX6_more_178 : decode cX6_more 178 = .ok (.goto (-109), 3) := by decide +kernel
theorem dX6_more_181 : decode cX6_more 181 = .ok (.iload 4, 2) := by decide +kernel
theorem dX6_more_183 : decode cX6_more 183 = .ok (.ifCond .ne 8, 3) := by decide +kernel
theorem dX6_more_186 : decode cX6_more 186 = .ok (.iload 7, 2) := by decide +kernel
theorem dX6_more_188 : decode cX6_more 188 = .ok (.goto 5, 3) := by decide +kernel
theorem dX6_more_191 : decode cX6_more 191 = .ok (.iload 6, 2) := by decide +kernel
theorem dX6_more_193 : decode cX6_more 193 = .ok (.ireturn, 1) := by decide +kernel
theorem dX6_envy_0 : decode cX6_envy 0 = .ok (.aload_n 0, 1) := by decide +kernel
theorem dX6_envy_1 : decode cX6_envy 1 = .ok (.iload_n 1, 1) := by decide +kernel
theorem dX6_envy_2 : decode cX6_envy 2 = .ok (.invokevirtual 78, 3) := by decide +kernel
theorem dX6_envy_5 : decode cX6_envy 5 = .ok (.ifCond .eq 13, 3) := by decide +kernel
theorem dX6_envy_8 : decode cX6_envy 8 = .ok (.iload_n 2, 1) := by decide +kernel
theorem dX6_envy_9 : decode cX6_envy 9 = .ok (.i2l, 1) := by decide +kernel
theorem dX6_envy_10 : decode cX6_envy 10 = .ok (.lconst 0, 1) := by decide +kernel
theorem dX6_envy_11 : decode cX6_envy 11 = .ok (.lconst 1, 1) := by decide +kernel
theorem dX6_envy_12 : decode cX6_envy 12 = .ok (.invokestatic 41, 3) := by decide +kernel
theorem dX6_envy_15 : decode cX6_envy 15 = .ok (.ifCond .ne 5, 3) := by decide +kernel
theorem dX6_envy_18 : decode cX6_envy 18 = .ok (.iconst (-1), 1) := by decide +kernel
theorem dX6_envy_19 : decode cX6_envy 19 = .ok (.ireturn, 1) := by decide +kernel
theorem dX6_envy_20 : decode cX6_envy 20 = .ok (.aload_n 0, 1) := by decide +kernel
theorem dX6_envy_21 : decode cX6_envy 21 = .ok (.iload_n 1, 1) := by decide +kernel
theorem dX6_envy_22 : decode cX6_envy 22 = .ok (.invokevirtual 64, 3) := by decide +kernel
theorem dX6_envy_25 : decode cX6_envy 25 = .ok (.istore_n 3, 1) := by decide +kernel
theorem dX6_envy_26 : decode cX6_envy 26 = .ok (.bipush (-4), 2) := by decide +kernel
theorem dX6_envy_28 : decode cX6_envy 28 = .ok (.istore 4, 2) := by decide +kernel
theorem dX6_envy_30 : decode cX6_envy 30 = .ok (.aload_n 0, 1) := by decide +kernel
theorem dX6_envy_31 : decode cX6_envy 31 = .ok (.invokevirtual 197, 3) := by decide +kernel
theorem dX6_envy_34 : decode cX6_envy 34 = .ok (.iconst 0, 1) := by decide +kernel
theorem dX6_envy_35 : decode cX6_envy 35 = .ok (.istore 5, 2) := by decide +kernel
theorem dX6_envy_37 : decode cX6_envy 37 = .ok (.iload 5, 2) := by decide +kernel
theorem dX6_envy_39 : decode cX6_envy 39 = .ok (.aload_n 0, 1) := by decide +kernel
theorem dX6_envy_40 : decode cX6_envy 40 = .ok (.getfield 7, 3) := by decide +kernel
theorem dX6_envy_43 : decode cX6_envy 43 = .ok (.iconst 0, 1) := by decide +kernel
theorem dX6_envy_44 : decode cX6_envy 44 = .ok (.iaload, 1) := by decide +kernel
theorem dX6_envy_45 : decode cX6_envy 45 = .ok (.if_icmp .ge 101, 3) := by decide +kernel
theorem dX6_envy_48 : decode cX6_envy 48 = .ok (.iload 5, 2) := by decide +kernel
theorem dX6_envy_50 : decode cX6_envy 50 = .ok (.iload_n 1, 1) := by decide +kernel
theorem dX6_envy_51 : decode cX6_envy 51 = .ok (.if_icmp .eq 89, 3) := by decide +kernel
theorem dX6_envy_54 : decode cX6_envy 54 = .ok (.iconst 0, 1) := by decide +kernel
theorem dX6_envy_55 : decode cX6_envy 55 = .ok (.istore 6, 2) := by decide +kernel
theorem dX6_envy_57 : decode cX6_envy 57 = .ok (.iload 6, 2) := by decide +kernel
theorem dX6_envy_59 : decode cX6_envy 59 = .ok (.bipush 12, 2) := by decide +kernel
theorem dX6_envy_61 : decode cX6_envy 61 = .ok (.if_icmp .ge 40, 3) := by decide +kernel
theorem dX6_envy_64 : decode cX6_envy 64 = .ok (.aload_n 0, 1) := by decide +kernel
theorem dX6_envy_65 : decode cX6_envy 65 = .ok (.getfield 7, 3) := by decide +kernel
theorem dX6_envy_68 : decode cX6_envy 68 = .ok (.bipush 23, 2) := by decide +kernel
theorem dX6_envy_70 : decode cX6_envy 70 = .ok (.bipush 12, 2) := by decide +kernel
theorem dX6_envy_72 : decode cX6_envy 72 = .ok (.iload_n 1, 1) := by decide +kernel
theorem dX6_envy_73 : decode cX6_envy 73 = .ok (.imul, 1) := by decide +kernel
theorem dX6_envy_74 : decode cX6_envy 74 = .ok (.iadd, 1) := by decide +kernel
theorem dX6_envy_75 : decode cX6_envy 75 = .ok (.iload 6, 2) := by decide +kernel
theorem dX6_envy_77 : decode cX6_envy 77 = .ok (.iadd, 1) := by decide +kernel
theorem dX6_envy_78 : decode cX6_envy 78 = .ok (.aload_n 0, 1) := by decide +kernel
theorem dX6_envy_79 : decode cX6_envy 79 = .ok (.getfield 22, 3) := by decide +kernel
theorem dX6_envy_82 : decode cX6_envy 82 = .ok (.bipush 23, 2) := by decide +kernel
theorem dX6_envy_84 : decode cX6_envy 84 = .ok (.bipush 12, 2) := by decide +kernel
theorem dX6_envy_86 : decode cX6_envy 86 = .ok (.iload 5, 2) := by decide +kernel
theorem dX6_envy_88 : decode cX6_envy 88 = .ok (.imul, 1) := by decide +kernel
theorem dX6_envy_89 : decode cX6_envy 89 = .ok (.iadd, 1) := by decide +kernel
theorem dX6_envy_90 : decode cX6_envy 90 = .ok (.iload 6, 2) := by decide +kernel
theorem dX6_envy_92 : decode cX6_envy 92 = .ok (.iadd, 1) := by decide +kernel
theorem dX6_envy_93 : decode cX6_envy 93 = .ok (.iaload, 1) := by decide +kernel
theorem dX6_envy_94 : decode cX6_envy 94 = .ok (.iastore, 1) := by decide +kernel
theorem dX6_envy_95 : decode cX6_envy 95 = .ok (.iinc 6 1, 3) := by decide +kernel
theorem dX6_envy_98 : decode cX6_envy 98 = .ok (.goto (-41), 3) := by decide +kernel
theorem dX6_envy_101 : decode cX6_envy 101 = .ok (.aload_n 0, 1) := by decide +kernel
theorem dX6_envy_102 : decode cX6_envy 102 = .ok (.iload_n 1, 1) := by decide +kernel
theorem dX6_envy_103 : decode cX6_envy 103 = .ok (.invokevirtual 64, 3) := by decide +kernel
theorem dX6_envy_106 : decode cX6_envy 106 = .ok (.istore 6, 2) := by decide +kernel
theorem dX6_envy_108 : decode cX6_envy 108 = .ok (.iload 6, 2) := by decide +kernel
theorem dX6_envy_110 : decode cX6_envy 110 = .ok (.iload_n 3, 1) := by decide +kernel
theorem dX6_envy_111 : decode cX6_envy 111 = .ok (.if_icmp .le 8, 3) := by decide +kernel
theorem dX6_envy_114 : decode cX6_envy 114 = .ok (.iload 5, 2) := by decide +kernel
theorem dX6_envy_116 : decode cX6_envy 116 = .ok (.goto 5, 3) := by decide +kernel
theorem dX6_envy_119 : decode cX6_envy 119 = .ok (.iload 4, 2) := by decide +kernel
theorem dX6_envy_121 : decode cX6_envy 121 = .ok (.istore 4, 2) := by decide +kernel
theorem dX6_envy_123 : decode cX6_envy 123 = .ok (.iload 6, 2) := by decide +kernel
theorem dX6_envy_125 : decode cX6_envy 125 = .ok (.iload_n 3, 1) := by decide +kernel
theorem dX6_envy_126 : decode cX6_envy 126 = .ok (.if_icmp .le 8, 3) := by decide +kernel
theorem dX6_envy_129 : decode cX6_envy 129 = .ok (.iload 6, 2) := by decide +kernel
theorem dX6_envy_131 : decode cX6_envy 131 = .ok (.goto 4, 3) := by decide +kernel
theorem dX6_envy_134 : decode cX6_envy 134 = .ok (.iload_n 3, 1) := by decide +kernel
theorem dX6_envy_135 : decode cX6_envy 135 = .ok (.istore_n 3, 1) := by decide +kernel
theorem dX6_envy_136 : decode cX6_envy 136 = .ok (.aload_n 0, 1) := by decide +kernel
theorem dX6_envy_137 : decode cX6_envy 137 = .ok (.invokevirtual 200, 3) := by decide +kernel
theorem dX6_envy_140 : decode cX6_envy 140 = .ok (.iinc 5 1, 3) := by decide +kernel
theorem dX6_envy_143 : decode cX6_envy 143 = .ok (.goto (-106), 3) := by decide +kernel
theorem dX6_envy_146 : decode cX6_envy 146 = .ok (.iload_n 2, 1) := by decide +kernel
theorem dX6_envy_147 : decode cX6_envy 147 = .ok (.ifCond .eq 10, 3) := by decide +kernel
theorem dX6_envy_150 : decode cX6_envy 150 = .ok (.iload 4, 2) := by decide +kernel
theorem dX6_envy_152 : decode cX6_envy 152 = .ok (.bipush (-4), 2) := by decide +kernel
theorem dX6_envy_154 : decode cX6_envy 154 = .ok (.if_icmp .ne 8, 3) := by decide +kernel
theorem dX6_envy_157 : decode cX6_envy 157 = .ok (.iload 4, 2) := by decide +kernel
theorem dX6_envy_159 : decode cX6_envy 159 = .ok (.goto 4, 3) := by decide +kernel
theorem dX6_envy_162 : decode cX6_envy 162 = .ok (.iload_n 3, 1) := by decide +kernel
theorem dX6_envy_163 : decode cX6_envy 163 = .ok (.ireturn, 1) := by decide +kernel
theorem dX6_both_0 : decode cX6_both 0 = .ok (.aload_n 0, 1) := by decide +kernel
theorem dX6_both_1 : decode cX6_both 1 = .ok (.iload_n 1, 1) := by decide +kernel
theorem dX6_both_2 : decode cX6_both 2 = .ok (.invokevirtual 78, 3) := by decide +kernel
theorem dX6_both_5 : decode cX6_both 5 = .ok (.ifCond .eq 25, 3) := by decide +kernel
theorem dX6_both_8 : decode cX6_both 8 = .ok (.aload_n 0, 1) := by decide +kernel
theorem dX6_both_9 : decode cX6_both 9 = .ok (.iload_n 2, 1) := by decide +kernel
theorem dX6_both_10 : decode cX6_both 10 = .ok (.invokevirtual 78, 3) := by decide +kernel
theorem dX6_both_13 : decode cX6_both 13 = .ok (.ifCond .eq 17, 3) := by decide +kernel
theorem dX6_both_16 : decode cX6_both 16 = .ok (.aload_n 0, 1) := by decide +kernel
theorem dX6_both_17 : decode cX6_both 17 = .ok (.iload_n 1, 1) := by decide +kernel
theorem dX6_both_18 : decode cX6_both 18 = .ok (.invokevirtual 86, 3) := by decide +kernel
theorem dX6_both_21 : decode cX6_both 21 = .ok (.aload_n 0, 1) := by decide +kernel
theorem dX6_both_22 : decode cX6_both 22 = .ok (.iload_n 2, 1) := by decide +kernel
theorem dX6_both_23 : decode cX6_both 23 = .ok (.invokevirtual 86, 3) := by decide +kernel
theorem dX6_both_26 : decode cX6_both 26 = .ok (.iand, 1) := by decide +kernel
theorem dX6_both_27 : decode cX6_both 27 = .ok (.goto 4, 3) := by decide +kernel
theorem dX6_both_30 : decode cX6_both 30 = .ok (.iconst (-1), 1) := by decide +kernel
theorem dX6_both_31 : decode cX6_both 31 = .ok (.ireturn, 1) := by decide +kernel
theorem dX6_hands_0 : decode cX6_hands 0 = .ok (.iload_n 1, 1) := by decide +kernel
theorem dX6_hands_1 : decode cX6_hands 1 = .ok (.invokestatic 92, 3) := by decide +kernel
theorem dX6_hands_4 : decode cX6_hands 4 = .ok (.ifCond .ne 5, 3) := by decide +kernel
theorem dX6_hands_7 : decode cX6_hands 7 = .ok (.iconst (-1), 1) := by decide +kernel
theorem dX6_hands_8 : decode cX6_hands 8 = .ok (.ireturn, 1) := by decide +kernel
theorem dX6_hands_9 : decode cX6_hands 9 = .ok (.iconst 0, 1) := by decide +kernel
theorem dX6_hands_10 : decode cX6_hands 10 = .ok (.istore_n 2, 1) := by decide +kernel
theorem dX6_hands_11 : decode cX6_hands 11 = .ok (.iconst 0, 1) := by decide +kernel
theorem dX6_hands_12 : decode cX6_hands 12 = .ok (.istore_n 3, 1) := by decide +kernel
theorem dX6_hands_13 : decode cX6_hands 13 = .ok (.iload_n 3, 1) := by decide +kernel
theorem dX6_hands_14 : decode cX6_hands 14 = .ok (.aload_n 0, 1) := by decide +kernel
theorem dX6_hands_15 : decode cX6_hands 15 = .ok (.getfield 7, 3) := by decide +kernel
theorem dX6_hands_18 : decode cX6_hands 18 = .ok (.iconst 0, 1) := by decide +kernel
theorem dX6_hands_19 : decode cX6_hands 19 = .ok (.iaload, 1) := by decide +kernel
theorem dX6_hands_20 : decode cX6_hands 20 = .ok (.if_icmp .ge 28, 3) := by decide +kernel
theorem dX6_hands_23 : decode cX6_hands 23 = .ok (.iload_n 2, 1) := by decide +kernel
theorem dX6_hands_24 : decode cX6_hands 24 = .ok (.aload_n 0, 1) := by decide +kernel
theorem dX6_hands_25 : decode cX6_hands 25 = .ok (.iload_n 3, 1) := by decide +kernel
theorem dX6_hands_26 : decode cX6_hands 26 = .ok (.iload_n 1, 1) := by decide +kernel
theorem dX6_hands_27 : decode cX6_hands 27 = .ok (.invokevirtual 51, 3) := by decide +kernel
theorem dX6_hands_30 : decode cX6_hands 30 = .ok (.ifCond .eq 7, 3) := by decide +kernel
theorem dX6_hands_33 : decode cX6_hands 33 = .ok (.iconst 0, 1) := by decide +kernel
theorem dX6_hands_34 : decode cX6_hands 34 = .ok (.goto 6, 3) := by decide +kernel
theorem dX6_hands_37 : decode cX6_hands 37 = .ok (.iconst 1, 1) := by decide +kernel
theorem dX6_hands_38 : decode cX6_hands 38 = .ok (.iload_n 3, 1) := by decide +kernel
theorem dX6_hands_39 : decode cX6_hands 39 = .ok (.ishl, 1) := by decide +kernel
theorem dX6_hands_40 : decode cX6_hands 40 = .ok (.ior, 1) := by decide +kernel
theorem dX6_hands_41 : decode cX6_hands 41 = .ok (.istore_n 2, 1) := by decide +kernel
theorem dX6_hands_42 : decode cX6_hands 42 = .ok (.iinc 3 1, 3) := by decide +kernel
theorem dX6_hands_45 : decode cX6_hands 45 = .ok (.goto (-32), 3) := by decide +kernel
theorem dX6_hands_48 : decode cX6_hands 48 = .ok (.iload_n 2, 1) := by decide +kernel
theorem dX6_hands_49 : decode cX6_hands 49 = .ok (.ireturn, 1) := by decide +kernel
theorem dX6_rain_0 : decode cX6_rain 0 = .ok (.aload_n 0, 1) := by decide +kernel
theorem dX6_rain_1 : decode cX6_rain 1 = .ok (.iload_n 1, 1) := by decide +kernel
theorem dX6_rain_2 : decode cX6_rain 2 = .ok (.invokevirtual 78, 3) := by decide +kernel
theorem dX6_rain_5 : decode cX6_rain 5 = .ok (.ifCond .eq 38, 3) := by decide +kernel
theorem dX6_rain_8 : decode cX6_rain 8 = .ok (.iload_n 2, 1) := by decide +kernel
theorem dX6_rain_9 : decode cX6_rain 9 = .ok (.i2l, 1) := by decide +kernel
theorem dX6_rain_10 : decode cX6_rain 10 = .ok (.lconst 0, 1) := by decide +kernel
theorem dX6_rain_11 : decode cX6_rain 11 = .ok (.ldc2_w 205, 3) := by decide +kernel
theorem dX6_rain_14 : decode cX6_rain 14 = .ok (.invokestatic 41, 3) := by decide +kernel
theorem dX6_rain_17 : decode cX6_rain 17 = .ok (.ifCond .eq 26, 3) := by decide +kernel
theorem dX6_rain_20 : decode cX6_rain 20 = .ok (.iload_n 3, 1) := by decide +kernel
theorem dX6_rain_21 : decode cX6_rain 21 = .ok (.i2l, 1) := by decide +kernel
theorem dX6_rain_22 : decode cX6_rain 22 = .ok (.lconst 0, 1) := by decide +kernel
theorem dX6_rain_23 : decode cX6_rain 23 = .ok (.ldc2_w 207, 3) := by decide +kernel
theorem dX6_rain_26 : decode cX6_rain 26 = .ok (.invokestatic 41, 3) := by decide +kernel
theorem dX6_rain_29 : decode cX6_rain 29 = .ok (.ifCond .eq 14, 3) := by decide +kernel
theorem dX6_rain_32 : decode cX6_rain 32 = .ok (.iload 4, 2) := by decide +kernel
theorem dX6_rain_34 : decode cX6_rain 34 = .ok (.i2l, 1) := by decide +kernel
theorem dX6_rain_35 : decode cX6_rain 35 = .ok (.lconst 0, 1) := by decide +kernel
theorem dX6_rain_36 : decode cX6_rain 36 = .ok (.lconst 1, 1) := by decide +kernel
theorem dX6_rain_37 : decode cX6_rain 37 = .ok (.invokestatic 41, 3) := by decide +kernel
theorem dX6_rain_40 : decode cX6_rain 40 = .ok (.ifCond .ne 5, 3) := by decide +kernel
theorem dX6_rain_43 : decode cX6_rain 43 = .ok (.iconst (-1), 1) := by decide +kernel
theorem dX6_rain_44 : decode cX6_rain 44 = .ok (.ireturn, 1) := by decide +kernel
theorem dX6_rain_45 : decode cX6_rain 45 = .ok (.aload_n 0, 1) := by decide +kernel
theorem dX6_rain_46 : decode cX6_rain 46 = .ok (.getfield 7, 3) := by decide +kernel
theorem dX6_rain_49 : decode cX6_rain 49 = .ok (.iconst 2, 1) := by decide +kernel
theorem dX6_rain_50 : decode cX6_rain 50 = .ok (.iaload, 1) := by decide +kernel
theorem dX6_rain_51 : decode cX6_rain 51 = .ok (.istore 5, 2) := by decide +kernel
theorem dX6_rain_53 : decode cX6_rain 53 = .ok (.iconst 0, 1) := by decide +kernel
theorem dX6_rain_54 : decode cX6_rain 54 = .ok (.istore 6, 2) := by decide +kernel
theorem dX6_rain_56 : decode cX6_rain 56 = .ok (.iconst 0, 1) := by decide +kernel
theorem dX6_rain_57 : decode cX6_rain 57 = .ok (.istore 7, 2) := by decide +kernel
theorem dX6_rain_59 : decode cX6_rain 59 = .ok (.iconst 0, 1) := by decide +kernel
theorem dX6_rain_60 : decode cX6_rain 60 = .ok (.istore 8, 2) := by decide +kernel
theorem dX6_rain_62 : decode cX6_rain 62 = .ok (.iload 8, 2) := by decide +kernel
theorem dX6_rain_64 : decode cX6_rain 64 = .ok (.bipush 64, 2) := by decide +kernel
theorem dX6_rain_66 : decode cX6_rain 66 = .ok (.if_icmp .ge 113, 3) := by decide +kernel
theorem dX6_rain_69 : decode cX6_rain 69 = .ok (.iload 8, 2) := by decide +kernel
theorem dX6_rain_71 : decode cX6_rain 71 = .ok (.iload 5, 2) := by decide +kernel
theorem dX6_rain_73 : decode cX6_rain 73 = .ok (.iand, 1) := by decide +kernel
theorem dX6_rain_74 : decode cX6_rain 74 = .ok (.ifCond .ne 99, 3) := by decide +kernel
theorem dX6_rain_77 : decode cX6_rain 77 = .ok (.iconst 1, 1) := by decide +kernel
theorem dX6_rain_78 : decode cX6_rain 78 = .ok (.istore 9, 2) := by decide +kernel
theorem dX6_rain_80 : decode cX6_rain 80 = .ok (.iconst 0, 1) := by decide +kernel
theorem dX6_rain_81 : decode cX6_rain 81 = .ok (.istore 10, 2) := by decide +kernel
theorem dX6_rain_83 : decode cX6_rain 83 = .ok (.iload 10, 2) := by decide +kernel
theorem dX6_rain_85 : decode cX6_rain 85 = .ok (.bipush 6, 2) := by decide +kernel
theorem dX6_rain_87 : decode cX6_rain 87 = .ok (.if_icmp .ge 48, 3) := by decide +kernel
theorem dX6_rain_90 : decode cX6_rain 90 = .ok (.iload 9, 2) := by decide +kernel
theorem dX6_rain_92 : decode cX6_rain 92 = .ok (.iload 5, 2) := by decide +kernel
theorem dX6_rain_94 : decode cX6_rain 94 = .ok (.iload 10, 2) := by decide +kernel
theorem dX6_rain_96 : decode cX6_rain 96 = .ok (.ishr, 1) := by decide +kernel
theorem dX6_rain_97 : decode cX6_rain 97 = .ok (.iconst 1, 1) := by decide +kernel
theorem dX6_rain_98 : decode cX6_rain 98 = .ok (.iand, 1) := by decide +kernel
theorem dX6_rain_99 : decode cX6_rain 99 = .ok (.iconst 1, 1) := by decide +kernel
theorem dX6_rain_100 : decode cX6_rain 100 = .ok (.if_icmp .ne 7, 3) := by decide +kernel
theorem dX6_rain_103 : decode cX6_rain 103 = .ok (.iconst 1, 1) := by decide +kernel
theorem dX6_rain_104 : decode cX6_rain 104 = .ok (.goto 22, 3) := by decide +kernel
theorem dX6_rain_107 : decode cX6_rain 107 = .ok (.iload 8, 2) := by decide +kernel
theorem dX6_rain_109 : decode cX6_rain 109 = .ok (.iload 10, 2) := by decide +kernel
theorem dX6_rain_111 : decode cX6_rain 111 = .ok (.ishr, 1) := by decide +kernel
theorem dX6_rain_112 : decode cX6_rain 112 = .ok (.iconst 1, 1) := by decide +kernel
theorem dX6_rain_113 : decode cX6_rain 113 = .ok (.iand, 1) := by decide +kernel
theorem dX6_rain_114 : decode cX6_rain 114 = .ok (.iconst 1, 1) := by decide +kernel
theorem dX6_rain_115 : decode cX6_rain 115 = .ok (.if_icmp .ne 7, 3) := by decide +kernel
theorem dX6_rain_118 : decode cX6_rain 118 = .ok (.iload_n 3, 1) := by decide +kernel
theorem dX6_rain_119 : decode cX6_rain 119 = .ok (.goto 7, 3) := by decide +kernel
theorem dX6_rain_122 : decode cX6_rain 122 = .ok (.bipush 10, 2) := by decide +kernel
theorem dX6_rain_124 : decode cX6_rain 124 = .ok (.iload_n 3, 1) := by decide +kernel
theorem dX6_rain_125 : decode cX6_rain 125 = .ok (.isub, 1) := by decide +kernel
theorem dX6_rain_126 : decode cX6_rain 126 = .ok (.imul, 1) := by decide +kernel
theorem dX6_rain_127 : decode cX6_rain 127 = .ok (.istore 9, 2) := by decide +kernel
theorem dX6_rain_129 : decode cX6_rain 129 = .ok (.iinc 10 1, 3) := by decide +kernel
theorem dX6_rain_132 : decode cX6_rain 132 = .ok (.goto (-49), 3) := by decide +kernel
theorem dX6_rain_135 : decode cX6_rain 135 = .ok (.aload_n 0, 1) := by decide +kernel
theorem dX6_rain_136 : decode cX6_rain 136 = .ok (.getfield 7, 3) := by decide +kernel
theorem dX6_rain_139 : decode cX6_rain 139 = .ok (.iconst 2, 1) := by decide +kernel
theorem dX6_rain_140 : decode cX6_rain 140 = .ok (.iload 5, 2) := by decide +kernel
theorem dX6_rain_142 : decode cX6_rain 142 = .ok (.iload 8, 2) := by decide +kernel
theorem dX6_rain_144 : decode cX6_rain 144 = .ok (.ior, 1) := by decide +kernel
theorem dX6_rain_145 : decode cX6_rain 145 = .ok (.iastore, 1) := by decide +kernel
theorem dX6_rain_146 : decode cX6_rain 146 = .ok (.iload 7, 2) := by decide +kernel
theorem dX6_rain_148 : decode cX6_rain 148 = .ok (.iload 9, 2) := by decide +kernel
theorem dX6_rain_150 : decode cX6_rain 150 = .ok (.iadd, 1) := by decide +kernel
theorem dX6_rain_151 : decode cX6_rain 151 = .ok (.istore 7, 2) := by decide +kernel
theorem dX6_rain_153 : decode cX6_rain 153 = .ok (.iload 6, 2) := by decide +kernel
theorem dX6_rain_155 : decode cX6_rain 155 = .ok (.aload_n 0, 1) := by decide +kernel
theorem dX6_rain_156 : decode cX6_rain 156 = .ok (.iload_n 1, 1) := by decide +kernel
theorem dX6_rain_157 : decode cX6_rain 157 = .ok (.invokevirtual 64, 3) := by decide +kernel
theorem dX6_rain_160 : decode cX6_rain 160 = .ok (.iload_n 2, 1) := by decide +kernel
theorem dX6_rain_161 : decode cX6_rain 161 = .ok (.if_icmp .lt 8, 3) := by decide +kernel
theorem dX6_rain_164 : decode cX6_rain 164 = .ok (.iload 9, 2) := by decide +kernel
theorem dX6_rain_166 : decode cX6_rain 166 = .ok (.goto 4, 3) := by decide +kernel
theorem dX6_rain_169 : decode cX6_rain 169 = .ok (.iconst 0, 1) := by decide +kernel
theorem dX6_rain_170 : decode cX6_rain 170 = .ok (.iadd, 1) := by decide +kernel
theorem dX6_rain_171 : decode cX6_rain 171 = .ok (.istore 6, 2) := by decide +kernel
theorem dX6_rain_173 : decode cX6_rain 173 = .ok (.iinc 8 1, 3) := by decide +kernel
theorem dX6_rain_176 : decode cX6_rain 176 = .ok (.goto (-114), 3) := by decide +kernel
theorem dX6_rain_179 : decode cX6_rain 179 = .ok (.aload_n 0, 1) := by decide +kernel
theorem dX6_rain_180 : decode cX6_rain 180 = .ok (.getfield 7, 3) := by decide +kernel
theorem dX6_rain_183 : decode cX6_rain 183 = .ok (.iconst 2, 1) := by decide +kernel
theorem dX6_rain_184 : decode cX6_rain 184 = .ok (.iload 5, 2) := by decide +kernel
theorem dX6_rain_186 : decode cX6_rain 186 = .ok (.iastore, 1) := by decide +kernel
theorem dX6_rain_187 : decode cX6_rain 187 = .ok (.iload 6, 2) := by decide +kernel
theorem dX6_rain_189 : decode cX6_rain 189 = .ok (.istore 8, 2) := by decide +kernel
theorem dX6_rain_191 : decode cX6_rain 191 = .ok (.iload 7, 2) := by decide +kernel
theorem dX6_rain_193 : decode cX6_rain 193 = .ok (.istore 9, 2) := by decide +kernel
theorem dX6_rain_195 : decode cX6_rain 195 = .ok (.iload 9, 2) := by decide +kernel
theorem dX6_rain_197 : decode cX6_rain 197 = .ok (.ifCond .eq 21, 3) := by decide +kernel
theorem dX6_rain_200 : decode cX6_rain 200 = .ok (.iload 8, 2) := by decide +kernel
theorem dX6_rain_202 : decode cX6_rain 202 = .ok (.iload 9, 2) := by decide +kernel
theorem dX6_rain_204 : decode cX6_rain 204 = .ok (.irem, 1) := by decide +kernel
theorem dX6_rain_205 : decode cX6_rain 205 = .ok (.istore 10, 2) := by decide +kernel
theorem dX6_rain_207 : decode cX6_rain 207 = .ok (.iload 9, 2) := by decide +kernel
theorem dX6_rain_209 : decode cX6_rain 209 = .ok (.istore 8, 2) := by decide +kernel
theorem dX6_rain_211 : decode cX6_rain 211 = .ok (.iload 10, 2) := by decide +kernel
theorem dX6_rain_213 : decode cX6_rain 213 = .ok (.istore 9, 2) := by decide +kernel
theorem dX6_rain_215 : decode cX6_rain 215 = .ok (.goto (-20), 3) := by decide +kernel
theorem dX6_rain_218 : decode cX6_rain 218 = .ok (.iload 4, 2) := by decide +kernel
theorem dX6_rain_220 : decode cX6_rain 220 = .ok (.ifCond .ne 11, 3) := by decide +kernel
theorem dX6_rain_223 : decode cX6_rain 223 = .ok (.iload 6, 2) := by decide +kernel
theorem dX6_rain_225 : decode cX6_rain 225 = .ok (.iload 8, 2) := by decide +kernel
theorem dX6_rain_227 : decode cX6_rain 227 = .ok (.idiv, 1) := by decide +kernel
theorem dX6_rain_228 : decode cX6_rain 228 = .ok (.goto 8, 3) := by decide +kernel
theorem dX6_rain_231 : decode cX6_rain 231 = .ok (.iload 7, 2) := by decide +kernel
theorem dX6_rain_233 : decode cX6_rain 233 = .ok (.iload 8, 2) := by decide +kernel
theorem dX6_rain_235 : decode cX6_rain 235 = .ok (.idiv, 1) := by decide +kernel
theorem dX6_rain_236 : decode cX6_rain 236 = .ok (.ireturn, 1) := by decide +kernel
theorem dX6_image_0 : decode cX6_image 0 = .ok (.iconst 0, 1) := by decide +kernel
theorem dX6_image_1 : decode cX6_image 1 = .ok (.istore_n 1, 1) := by decide +kernel
theorem dX6_image_2 : decode cX6_image 2 = .ok (.iload_n 1, 1) := by decide +kernel
theorem dX6_image_3 : decode cX6_image 3 = .ok (.bipush 95, 2) := by decide +kernel
theorem dX6_image_5 : decode cX6_image 5 = .ok (.if_icmp .ge 21, 3) := by decide +kernel
theorem dX6_image_8 : decode cX6_image 8 = .ok (.aload_n 0, 1) := by decide +kernel
theorem dX6_image_9 : decode cX6_image 9 = .ok (.getfield 25, 3) := by decide +kernel
theorem dX6_image_12 : decode cX6_image 12 = .ok (.iload_n 1, 1) := by decide +kernel
theorem dX6_image_13 : decode cX6_image 13 = .ok (.aload_n 0, 1) := by decide +kernel
theorem dX6_image_14 : decode cX6_image 14 = .ok (.getfield 7, 3) := by decide +kernel
theorem dX6_image_17 : decode cX6_image 17 = .ok (.iload_n 1, 1) := by decide +kernel
theorem dX6_image_18 : decode cX6_image 18 = .ok (.iaload, 1) := by decide +kernel
theorem dX6_image_19 : decode cX6_image 19 = .ok (.iastore, 1) := by decide +kernel
theorem dX6_image_20 : decode cX6_image 20 = .ok (.iinc 1 1, 3) := by decide +kernel
theorem dX6_image_23 : decode cX6_image 23 = .ok (.goto (-21), 3) := by decide +kernel
theorem dX6_image_26 : decode cX6_image 26 = .ok (.iconst 0, 1) := by decide +kernel
theorem dX6_image_27 : decode cX6_image 27 = .ok (.istore_n 1, 1) := by decide +kernel
theorem dX6_image_28 : decode cX6_image 28 = .ok (.iload_n 1, 1) := by decide +kernel
theorem dX6_image_29 : decode cX6_image 29 = .ok (.sipush 648, 3) := by decide +kernel
theorem dX6_image_32 : decode cX6_image 32 = .ok (.if_icmp .ge 24, 3) := by decide +kernel
theorem dX6_image_35 : decode cX6_image 35 = .ok (.aload_n 0, 1) := by decide +kernel
theorem dX6_image_36 : decode cX6_image 36 = .ok (.getfield 25, 3) := by decide +kernel
theorem dX6_image_39 : decode cX6_image 39 = .ok (.bipush 95, 2) := by decide +kernel
theorem dX6_image_41 : decode cX6_image 41 = .ok (.iload_n 1, 1) := by decide +kernel
theorem dX6_image_42 : decode cX6_image 42 = .ok (.iadd, 1) := by decide +kernel
theorem dX6_image_43 : decode cX6_image 43 = .ok (.aload_n 0, 1) := by decide +kernel
theorem dX6_image_44 : decode cX6_image 44 = .ok (.getfield 19, 3) := by decide +kernel
theorem dX6_image_47 : decode cX6_image 47 = .ok (.iload_n 1, 1) := by decide +kernel
theorem dX6_image_48 : decode cX6_image 48 = .ok (.iaload, 1) := by decide +kernel
theorem dX6_image_49 : decode cX6_image 49 = .ok (.iastore, 1) := by decide +kernel
theorem dX6_image_50 : decode cX6_image 50 = .ok (.iinc 1 1, 3) := by decide +kernel
theorem dX6_image_53 : decode cX6_image 53 = .ok (.goto (-25), 3) := by decide +kernel
theorem dX6_image_56 : decode cX6_image 56 = .ok (.aload_n 0, 1) := by decide +kernel
theorem dX6_image_57 : decode cX6_image 57 = .ok (.aload_n 0, 1) := by decide +kernel
theorem dX6_image_58 : decode cX6_image 58 = .ok (.getfield 68, 3) := by decide +kernel
theorem dX6_image_61 : decode cX6_image 61 = .ok (.putfield 209, 3) := by decide +kernel
theorem dX6_image_64 : decode cX6_image 64 = .ok (.aload_n 0, 1) := by decide +kernel
theorem dX6_image_65 : decode cX6_image 65 = .ok (.iconst 1, 1) := by decide +kernel
theorem dX6_image_66 : decode cX6_image 66 = .ok (.putfield 212, 3) := by decide +kernel
theorem dX6_image_69 : decode cX6_image 69 = .ok (.iconst 1, 1) := by decide +kernel
theorem dX6_image_70 : decode cX6_image 70 = .ok (.ireturn, 1) := by decide +kernel
theorem dX6_restore_0 : decode cX6_restore 0 = .ok (.aload_n 0, 1) := by decide +kernel
theorem dX6_restore_1 : decode cX6_restore 1 = .ok (.getfield 212, 3) := by decide +kernel
theorem dX6_restore_4 : decode cX6_restore 4 = .ok (.ifCond .ne 6, 3) := by decide +kernel
theorem dX6_restore_7 : decode cX6_restore 7 = .ok (.bipush (-4), 2) := by decide +kernel
theorem dX6_restore_9 : decode cX6_restore 9 = .ok (.ireturn, 1) := by decide +kernel
theorem dX6_restore_10 : decode cX6_restore 10 = .ok (.iconst 0, 1) := by decide +kernel
theorem dX6_restore_11 : decode cX6_restore 11 = .ok (.istore_n 1, 1) := by decide +kernel
theorem dX6_restore_12 : decode cX6_restore 12 = .ok (.iload_n 1, 1) := by decide +kernel
theorem dX6_restore_13 : decode cX6_restore 13 = .ok (.bipush 95, 2) := by decide +kernel
theorem dX6_restore_15 : decode cX6_restore 15 = .ok (.if_icmp .ge 21, 3) := by decide +kernel
theorem dX6_restore_18 : decode cX6_restore 18 = .ok (.aload_n 0, 1) := by decide +kernel
theorem dX6_restore_19 : decode cX6_restore 19 = .ok (.getfield 7, 3) := by decide +kernel
theorem dX6_restore_22 : decode cX6_restore 22 = .ok (.iload_n 1, 1) := by decide +kernel
theorem dX6_restore_23 : decode cX6_restore 23 = .ok (.aload_n 0, 1) := by decide +kernel
theorem dX6_restore_24 : decode cX6_restore 24 = .ok (.getfield 25, 3) := by decide +kernel
theorem dX6_restore_27 : decode cX6_restore 27 = .ok (.iload_n 1, 1) := by decide +kernel
theorem dX6_restore_28 : decode cX6_restore 28 = .ok (.iaload, 1) := by decide +kernel
theorem dX6_restore_29 : decode cX6_restore 29 = .ok (.iastore, 1) := by decide +kernel
theorem dX6_restore_30 : decode cX6_restore 30 = .ok (.iinc 1 1, 3) := by decide +kernel
theorem dX6_restore_33 : decode cX6_restore 33 = .ok (.goto (-21), 3) := by decide +kernel
theorem dX6_restore_36 : decode cX6_restore 36 = .ok (.iconst 0, 1) := by decide +kernel
theorem dX6_restore_37 : decode cX6_restore 37 = .ok (.istore_n 1, 1) := by decide +kernel
theorem dX6_restore_38 : decode cX6_restore 38 = .ok (.iload_n 1, 1) := by decide +kernel
theorem dX6_restore_39 : decode cX6_restore 39 = .ok (.sipush 648, 3) := by decide +kernel
theorem dX6_restore_42 : decode cX6_restore 42 = .ok (.if_icmp .ge 24, 3) := by decide +kernel
theorem dX6_restore_45 : decode cX6_restore 45 = .ok (.aload_n 0, 1) := by decide +kernel
theorem dX6_restore_46 : decode cX6_restore 46 = .ok (.getfield 19, 3) := by decide +kernel
theorem dX6_restore_49 : decode cX6_restore 49 = .ok (.iload_n 1, 1) := by decide +kernel
theorem dX6_restore_50 : decode cX6_restore 50 = .ok (.aload_n 0, 1) := by decide +kernel
theorem dX6_restore_51 : decode cX6_restore 51 = .ok (.getfield 25, 3) := by decide +kernel
theorem dX6_restore_54 : decode cX6_restore 54 = .ok (.bipush 95, 2) := by decide +kernel
theorem dX6_restore_56 : decode cX6_restore 56 = .ok (.iload_n 1, 1) := by decide +kernel
theorem dX6_restore_57 : decode cX6_restore 57 = .ok (.iadd, 1) := by decide +kernel
theorem dX6_restore_58 : decode cX6_restore 58 = .ok (.iaload, 1) := by decide +kernel
theorem dX6_restore_59 : decode cX6_restore 59 = .ok (.iastore, 1) := by decide +kernel
theorem dX6_restore_60 : decode cX6_restore 60 = .ok (.iinc 1 1, 3) := by decide +kernel
theorem dX6_restore_63 : decode cX6_restore 63 = .ok (.goto (-25), 3) := by decide +kernel
theorem dX6_restore_66 : decode cX6_restore 66 = .ok (.aload_n 0, 1) := by decide +kernel
theorem dX6_restore_67 : decode cX6_restore 67 = .ok (.aload_n 0, 1) := by decide +kernel
theorem dX6_restore_68 : decode cX6_restore 68 = .ok (.getfield 209, 3) := by decide +kernel
theorem dX6_restore_71 : decode cX6_restore 71 = .ok (.putfield 68, 3) := by decide +kernel
theorem dX6_restore_74 : decode cX6_restore 74 = .ok (.iconst 1, 1) := by decide +kernel
theorem dX6_restore_75 : decode cX6_restore 75 = .ok (.ireturn, 1) := by decide +kernel
theorem dX6_isSheet_0 : decode cX6_isSheet 0 = .ok (.iload_n 0, 1) := by decide +kernel
theorem dX6_isSheet_1 : decode cX6_isSheet 1 = .ok (.i2l, 1) := by decide +kernel
theorem dX6_isSheet_2 : decode cX6_isSheet 2 = .ok (.lconst 0, 1) := by decide +kernel
theorem dX6_isSheet_3 : decode cX6_isSheet 3 = .ok (.ldc2_w 215, 3) := by decide +kernel
theorem dX6_isSheet_6 : decode cX6_isSheet 6 = .ok (.invokestatic 41, 3) := by decide +kernel
theorem dX6_isSheet_9 : decode cX6_isSheet 9 = .ok (.ireturn, 1) := by decide +kernel
theorem dX6_isLane_0 : decode cX6_isLane 0 = .ok (.iload_n 0, 1) := by decide +kernel
theorem dX6_isLane_1 : decode cX6_isLane 1 = .ok (.i2l, 1) := by decide +kernel
theorem dX6_isLane_2 : decode cX6_isLane 2 = .ok (.lconst 0, 1) := by decide +kernel
theorem dX6_isLane_3 : decode cX6_isLane 3 = .ok (.ldc2_w 215, 3) := by decide +kernel
theorem dX6_isLane_6 : decode cX6_isLane 6 = .ok (.invokestatic 41, 3) := by decide +kernel
theorem dX6_isLane_9 : decode cX6_isLane 9 = .ok (.ireturn, 1) := by decide +kernel
theorem dX6_why_0 : decode cX6_why 0 = .ok (.aload_n 0, 1) := by decide +kernel
theorem dX6_why_1 : decode cX6_why 1 = .ok (.getfield 28, 3) := by decide +kernel
theorem dX6_why_4 : decode cX6_why 4 = .ok (.iload_n 1, 1) := by decide +kernel
theorem dX6_why_5 : decode cX6_why 5 = .ok (.iaload, 1) := by decide +kernel
theorem dX6_why_6 : decode cX6_why 6 = .ok (.ifCond .ge 6, 3) := by decide +kernel
theorem dX6_why_9 : decode cX6_why 9 = .ok (.bipush (-11), 2) := by decide +kernel
theorem dX6_why_11 : decode cX6_why 11 = .ok (.ireturn, 1) := by decide +kernel
theorem dX6_why_12 : decode cX6_why 12 = .ok (.aload_n 0, 1) := by decide +kernel
theorem dX6_why_13 : decode cX6_why 13 = .ok (.getfield 28, 3) := by decide +kernel
theorem dX6_why_16 : decode cX6_why 16 = .ok (.iload_n 1, 1) := by decide +kernel
theorem dX6_why_17 : decode cX6_why 17 = .ok (.iaload, 1) := by decide +kernel
theorem dX6_why_18 : decode cX6_why 18 = .ok (.iload_n 2, 1) := by decide +kernel
theorem dX6_why_19 : decode cX6_why 19 = .ok (.if_icmp .eq 6, 3) := by decide +kernel
theorem dX6_why_22 : decode cX6_why 22 = .ok (.bipush (-12), 2) := by decide +kernel
theorem dX6_why_24 : decode cX6_why 24 = .ok (.ireturn, 1) := by decide +kernel
theorem dX6_why_25 : decode cX6_why 25 = .ok (.iload_n 3, 1) := by decide +kernel
theorem dX6_why_26 : decode cX6_why 26 = .ok (.ifCond .lt 25, 3) := by decide +kernel
theorem dX6_why_29 : decode cX6_why 29 = .ok (.iload 4, 2) := by decide +kernel
theorem dX6_why_31 : decode cX6_why 31 = .ok (.ifCond .lt 20, 3) := by decide +kernel
theorem dX6_why_34 : decode cX6_why 34 = .ok (.iload_n 3, 1) := by decide +kernel
theorem dX6_why_35 : decode cX6_why 35 = .ok (.i2l, 1) := by decide +kernel
theorem dX6_why_36 : decode cX6_why 36 = .ok (.iload 4, 2) := by decide +kernel
theorem dX6_why_38 : decode cX6_why 38 = .ok (.i2l, 1) := by decide +kernel
theorem dX6_why_39 : decode cX6_why 39 = .ok (.ladd, 1) := by decide +kernel
theorem dX6_why_40 : decode cX6_why 40 = .ok (.aload_n 0, 1) := by decide +kernel
theorem dX6_why_41 : decode cX6_why 41 = .ok (.getfield 31, 3) := by decide +kernel
theorem dX6_why_44 : decode cX6_why 44 = .ok (.iload_n 1, 1) := by decide +kernel
theorem dX6_why_45 : decode cX6_why 45 = .ok (.iaload, 1) := by decide +kernel
theorem dX6_why_46 : decode cX6_why 46 = .ok (.i2l, 1) := by decide +kernel
theorem dX6_why_47 : decode cX6_why 47 = .ok (.lcmp, 1) := by decide +kernel
theorem dX6_why_48 : decode cX6_why 48 = .ok (.ifCond .le 8, 3) := by decide +kernel
theorem dX6_why_51 : decode cX6_why 51 = .ok (.bipush (-13), 2) := by decide +kernel
theorem dX6_why_53 : decode cX6_why 53 = .ok (.goto 4, 3) := by decide +kernel
theorem dX6_why_56 : decode cX6_why 56 = .ok (.iconst 0, 1) := by decide +kernel
theorem dX6_why_57 : decode cX6_why 57 = .ok (.ireturn, 1) := by decide +kernel
theorem dX6_isSo_0 : decode cX6_isSo 0 = .ok (.iconst 1, 1) := by decide +kernel
theorem dX6_isSo_1 : decode cX6_isSo 1 = .ok (.istore 4, 2) := by decide +kernel
theorem dX6_isSo_3 : decode cX6_isSo 3 = .ok (.iconst 0, 1) := by decide +kernel
theorem dX6_isSo_4 : decode cX6_isSo 4 = .ok (.istore 5, 2) := by decide +kernel
theorem dX6_isSo_6 : decode cX6_isSo 6 = .ok (.iload 5, 2) := by decide +kernel
theorem dX6_isSo_8 : decode cX6_isSo 8 = .ok (.iload_n 3, 1) := by decide +kernel
theorem dX6_isSo_9 : decode cX6_isSo 9 = .ok (.if_icmp .ge 42, 3) := by decide +kernel
theorem dX6_isSo_12 : decode cX6_isSo 12 = .ok (.iload 4, 2) := by decide +kernel
theorem dX6_isSo_14 : decode cX6_isSo 14 = .ok (.ifCond .eq 28, 3) := by decide +kernel
theorem dX6_isSo_17 : decode cX6_isSo 17 = .ok (.aload_n 0, 1) := by decide +kernel
theorem dX6_isSo_18 : decode cX6_isSo 18 = .ok (.iload_n 1, 1) := by decide +kernel
theorem dX6_isSo_19 : decode cX6_isSo 19 = .ok (.iload 5, 2) := by decide +kernel
theorem dX6_isSo_21 : decode cX6_isSo 21 = .ok (.invokevirtual 61, 3) := by decide +kernel
theorem dX6_isSo_24 : decode cX6_isSo 24 = .ok (.i2l, 1) := by decide +kernel
theorem dX6_isSo_25 : decode cX6_isSo 25 = .ok (.aload_n 0, 1) := by decide +kernel
theorem dX6_isSo_26 : decode cX6_isSo 26 = .ok (.getfield 34, 3) := by decide +kernel
theorem dX6_isSo_29 : decode cX6_isSo 29 = .ok (.iload_n 2, 1) := by decide +kernel
theorem dX6_isSo_30 : decode cX6_isSo 30 = .ok (.iload 5, 2) := by decide +kernel
theorem dX6_isSo_32 : decode cX6_isSo 32 = .ok (.iadd, 1) := by decide +kernel
theorem dX6_isSo_33 : decode cX6_isSo 33 = .ok (.laload, 1) := by decide +kernel
theorem dX6_isSo_34 : decode cX6_isSo 34 = .ok (.lcmp, 1) := by decide +kernel
theorem dX6_isSo_35 : decode cX6_isSo 35 = .ok (.ifCond .ne 7, 3) := by decide +kernel
theorem dX6_isSo_38 : decode cX6_isSo 38 = .ok (.iconst 1, 1) := by decide +kernel
theorem dX6_isSo_39 : decode cX6_isSo 39 = .ok (.goto 4, 3) := by decide +kernel
theorem dX6_isSo_42 : decode cX6_isSo 42 = .ok (.iconst 0, 1) := by decide +kernel
theorem dX6_isSo_43 : decode cX6_isSo 43 = .ok (.istore 4, 2) := by decide +kernel
theorem dX6_isSo_45 : decode cX6_isSo 45 = .ok (.iinc 5 1, 3) := by decide +kernel
theorem dX6_isSo_48 : decode cX6_isSo 48 = .ok (.goto (-42), 3) := by decide +kernel
theorem dX6_isSo_51 : decode cX6_isSo 51 = .ok (.iload 4, 2) := by decide +kernel
theorem dX6_isSo_53 : decode cX6_isSo 53 = .ok (.ireturn, 1) := by decide +kernel
theorem dX6_told_0 : decode cX6_told 0 = .ok (.aload_n 0, 1) := by decide +kernel
theorem dX6_told_1 : decode cX6_told 1 = .ok (.iload_n 1, 1) := by decide +kernel
theorem dX6_told_2 : decode cX6_told 2 = .ok (.invokevirtual 78, 3) := by decide +kernel
theorem dX6_told_5 : decode cX6_told 5 = .ok (.ifCond .eq 41, 3) := by decide +kernel
theorem dX6_told_8 : decode cX6_told 8 = .ok (.iload_n 2, 1) := by decide +kernel
theorem dX6_told_9 : decode cX6_told 9 = .ok (.invokestatic 217, 3) := by decide +kernel
theorem dX6_told_12 : decode cX6_told 12 = .ok (.ifCond .eq 34, 3) := by decide +kernel
theorem dX6_told_15 : decode cX6_told 15 = .ok (.iload_n 3, 1) := by decide +kernel
theorem dX6_told_16 : decode cX6_told 16 = .ok (.invokestatic 220, 3) := by decide +kernel
theorem dX6_told_19 : decode cX6_told 19 = .ok (.ifCond .eq 27, 3) := by decide +kernel
theorem dX6_told_22 : decode cX6_told 22 = .ok (.iload 5, 2) := by decide +kernel
theorem dX6_told_24 : decode cX6_told 24 = .ok (.i2l, 1) := by decide +kernel
theorem dX6_told_25 : decode cX6_told 25 = .ok (.lconst 1, 1) := by decide +kernel
theorem dX6_told_26 : decode cX6_told 26 = .ok (.ldc2_w 82, 3) := by decide +kernel
theorem dX6_told_29 : decode cX6_told 29 = .ok (.invokestatic 41, 3) := by decide +kernel
theorem dX6_told_32 : decode cX6_told 32 = .ok (.ifCond .eq 14, 3) := by decide +kernel
theorem dX6_told_35 : decode cX6_told 35 = .ok (.iload 6, 2) := by decide +kernel
theorem dX6_told_37 : decode cX6_told 37 = .ok (.i2l, 1) := by decide +kernel
theorem dX6_told_38 : decode cX6_told 38 = .ok (.lconst 0, 1) := by decide +kernel
theorem dX6_told_39 : decode cX6_told 39 = .ok (.lconst 1, 1) := by decide +kernel
theorem dX6_told_40 : decode cX6_told 40 = .ok (.invokestatic 41, 3) := by decide +kernel
theorem dX6_told_43 : decode cX6_told 43 = .ok (.ifCond .ne 5, 3) := by decide +kernel
theorem dX6_told_46 : decode cX6_told 46 = .ok (.iconst (-1), 1) := by decide +kernel
theorem dX6_told_47 : decode cX6_told 47 = .ok (.ireturn, 1) := by decide +kernel
theorem dX6_told_48 : decode cX6_told 48 = .ok (.aload_n 0, 1) := by decide +kernel
theorem dX6_told_49 : decode cX6_told 49 = .ok (.iload_n 2, 1) := by decide +kernel
theorem dX6_told_50 : decode cX6_told 50 = .ok (.iload_n 3, 1) := by decide +kernel
theorem dX6_told_51 : decode cX6_told 51 = .ok (.iload 4, 2) := by decide +kernel
theorem dX6_told_53 : decode cX6_told 53 = .ok (.iload 5, 2) := by decide +kernel
theorem dX6_told_55 : decode cX6_told 55 = .ok (.invokevirtual 223, 3) := by decide +kernel
theorem dX6_told_58 : decode cX6_told 58 = .ok (.istore 7, 2) := by decide +kernel
theorem dX6_told_60 : decode cX6_told 60 = .ok (.iload 7, 2) := by decide +kernel
theorem dX6_told_62 : decode cX6_told 62 = .ok (.ifCond .ge 6, 3) := by decide +kernel
theorem dX6_told_65 : decode cX6_told 65 = .ok (.iload 7, 2) := by decide +kernel
theorem dX6_told_67 : decode cX6_told 67 = .ok (.ireturn, 1) := by decide +kernel
theorem dX6_told_68 : decode cX6_told 68 = .ok (.iconst 0, 1) := by decide +kernel
theorem dX6_told_69 : decode cX6_told 69 = .ok (.istore 8, 2) := by decide +kernel
theorem dX6_told_71 : decode cX6_told 71 = .ok (.iconst 5, 1) := by decide +kernel
theorem dX6_told_72 : decode cX6_told 72 = .ok (.iconst 3, 1) := by decide +kernel
theorem dX6_told_73 : decode cX6_told 73 = .ok (.iload_n 1, 1) := by decide +kernel
theorem dX6_told_74 : decode cX6_told 74 = .ok (.imul, 1) := by decide +kernel
theorem dX6_told_75 : decode cX6_told 75 = .ok (.iadd, 1) := by decide +kernel
theorem dX6_told_76 : decode cX6_told 76 = .ok (.iload 6, 2) := by decide +kernel
theorem dX6_told_78 : decode cX6_told 78 = .ok (.iadd, 1) := by decide +kernel
theorem dX6_told_79 : decode cX6_told 79 = .ok (.istore 9, 2) := by decide +kernel
theorem dX6_told_81 : decode cX6_told 81 = .ok (.aload_n 0, 1) := by decide +kernel
theorem dX6_told_82 : decode cX6_told 82 = .ok (.getfield 7, 3) := by decide +kernel
theorem dX6_told_85 : decode cX6_told 85 = .ok (.iload 9, 2) := by decide +kernel
theorem dX6_told_87 : decode cX6_told 87 = .ok (.iaload, 1) := by decide +kernel
theorem dX6_told_88 : decode cX6_told 88 = .ok (.istore 10, 2) := by decide +kernel
theorem dX6_told_90 : decode cX6_told 90 = .ok (.iconst 0, 1) := by decide +kernel
theorem dX6_told_91 : decode cX6_told 91 = .ok (.istore 11, 2) := by decide +kernel
theorem dX6_told_93 : decode cX6_told 93 = .ok (.iload 11, 2) := by decide +kernel
theorem dX6_told_95 : decode cX6_told 95 = .ok (.iload 6, 2) := by decide +kernel
theorem dX6_told_97 : decode cX6_told 97 = .ok (.ifCond .ne 7, 3) := by decide +kernel
theorem dX6_told_100 : decode cX6_told 100 = .ok (.iconst 5, 1) := by decide +kernel
theorem dX6_told_101 : decode cX6_told 101 = .ok (.goto 9, 3) := by decide +kernel
theorem dX6_told_104 : decode cX6_told 104 = .ok (.aload_n 0, 1) := by decide +kernel
theorem dX6_told_105 : decode cX6_told 105 = .ok (.getfield 7, 3) := by decide +kernel
theorem dX6_told_108 : decode cX6_told 108 = .ok (.iconst 0, 1) := by decide +kernel
theorem dX6_told_109 : decode cX6_told 109 = .ok (.iaload, 1) := by decide +kernel
theorem dX6_told_110 : decode cX6_told 110 = .ok (.if_icmp .ge 48, 3) := by decide +kernel
theorem dX6_told_113 : decode cX6_told 113 = .ok (.aload_n 0, 1) := by decide +kernel
theorem dX6_told_114 : decode cX6_told 114 = .ok (.getfield 7, 3) := by decide +kernel
theorem dX6_told_117 : decode cX6_told 117 = .ok (.iload 9, 2) := by decide +kernel
theorem dX6_told_119 : decode cX6_told 119 = .ok (.iload 11, 2) := by decide +kernel
theorem dX6_told_121 : decode cX6_told 121 = .ok (.iastore, 1) := by decide +kernel
theorem dX6_told_122 : decode cX6_told 122 = .ok (.iload 8, 2) := by decide +kernel
theorem dX6_told_124 : decode cX6_told 124 = .ok (.aload_n 0, 1) := by decide +kernel
theorem dX6_told_125 : decode cX6_told 125 = .ok (.iload_n 1, 1) := by decide +kernel
theorem dX6_told_126 : decode cX6_told 126 = .ok (.bipush 24, 2) := by decide +kernel
theorem dX6_told_128 : decode cX6_told 128 = .ok (.iload_n 2, 1) := by decide +kernel
theorem dX6_told_129 : decode cX6_told 129 = .ok (.imul, 1) := by decide +kernel
theorem dX6_told_130 : decode cX6_told 130 = .ok (.iload 4, 2) := by decide +kernel
theorem dX6_told_132 : decode cX6_told 132 = .ok (.iadd, 1) := by decide +kernel
theorem dX6_told_133 : decode cX6_told 133 = .ok (.iload 5, 2) := by decide +kernel
theorem dX6_told_135 : decode cX6_told 135 = .ok (.invokevirtual 227, 3) := by decide +kernel
theorem dX6_told_138 : decode cX6_told 138 = .ok (.ifCond .eq 10, 3) := by decide +kernel
theorem dX6_told_141 : decode cX6_told 141 = .ok (.iconst 1, 1) := by decide +kernel
theorem dX6_told_142 : decode cX6_told 142 = .ok (.iload 11, 2) := by decide +kernel
theorem dX6_told_144 : decode cX6_told 144 = .ok (.ishl, 1) := by decide +kernel
theorem dX6_told_145 : decode cX6_told 145 = .ok (.goto 4, 3) := by decide +kernel
theorem dX6_told_148 : decode cX6_told 148 = .ok (.iconst 0, 1) := by decide +kernel
theorem dX6_told_149 : decode cX6_told 149 = .ok (.ior, 1) := by decide +kernel
theorem dX6_told_150 : decode cX6_told 150 = .ok (.istore 8, 2) := by decide +kernel
theorem dX6_told_152 : decode cX6_told 152 = .ok (.iinc 11 1, 3) := by decide +kernel
theorem dX6_told_155 : decode cX6_told 155 = .ok (.goto (-62), 3) := by decide +kernel
theorem dX6_told_158 : decode cX6_told 158 = .ok (.aload_n 0, 1) := by decide +kernel
theorem dX6_told_159 : decode cX6_told 159 = .ok (.getfield 7, 3) := by decide +kernel
theorem dX6_told_162 : decode cX6_told 162 = .ok (.iload 9, 2) := by decide +kernel
theorem dX6_told_164 : decode cX6_told 164 = .ok (.iload 10, 2) := by decide +kernel
theorem dX6_told_166 : decode cX6_told 166 = .ok (.iastore, 1) := by decide +kernel
theorem dX6_told_167 : decode cX6_told 167 = .ok (.iload 8, 2) := by decide +kernel
theorem dX6_told_169 : decode cX6_told 169 = .ok (.ireturn, 1) := by decide +kernel
theorem dX6_film_0 : decode cX6_film 0 = .ok (.aload_n 0, 1) := by decide +kernel
theorem dX6_film_1 : decode cX6_film 1 = .ok (.iload_n 1, 1) := by decide +kernel
theorem dX6_film_2 : decode cX6_film 2 = .ok (.invokevirtual 78, 3) := by decide +kernel
theorem dX6_film_5 : decode cX6_film 5 = .ok (.ifCond .eq 30, 3) := by decide +kernel
theorem dX6_film_8 : decode cX6_film 8 = .ok (.iload_n 2, 1) := by decide +kernel
theorem dX6_film_9 : decode cX6_film 9 = .ok (.i2l, 1) := by decide +kernel
theorem dX6_film_10 : decode cX6_film 10 = .ok (.lconst 1, 1) := by decide +kernel
theorem dX6_film_11 : decode cX6_film 11 = .ok (.ldc2_w 82, 3) := by decide +kernel
theorem dX6_film_14 : decode cX6_film 14 = .ok (.invokestatic 41, 3) := by decide +kernel
theorem dX6_film_17 : decode cX6_film 17 = .ok (.ifCond .eq 18, 3) := by decide +kernel
theorem dX6_film_20 : decode cX6_film 20 = .ok (.iload_n 3, 1) := by decide +kernel
theorem dX6_film_21 : decode cX6_film 21 = .ok (.invokestatic 217, 3) := by decide +kernel
theorem dX6_film_24 : decode cX6_film 24 = .ok (.ifCond .eq 11, 3) := by decide +kernel
theorem dX6_film_27 : decode cX6_film 27 = .ok (.iload 4, 2) := by decide +kernel
theorem dX6_film_29 : decode cX6_film 29 = .ok (.invokestatic 220, 3) := by decide +kernel
theorem dX6_film_32 : decode cX6_film 32 = .ok (.ifCond .ne 5, 3) := by decide +kernel
theorem dX6_film_35 : decode cX6_film 35 = .ok (.iconst (-1), 1) := by decide +kernel
theorem dX6_film_36 : decode cX6_film 36 = .ok (.ireturn, 1) := by decide +kernel
theorem dX6_film_37 : decode cX6_film 37 = .ok (.aload_n 0, 1) := by decide +kernel
theorem dX6_film_38 : decode cX6_film 38 = .ok (.iload_n 3, 1) := by decide +kernel
theorem dX6_film_39 : decode cX6_film 39 = .ok (.iload 4, 2) := by decide +kernel
theorem dX6_film_41 : decode cX6_film 41 = .ok (.iload 5, 2) := by decide +kernel
theorem dX6_film_43 : decode cX6_film 43 = .ok (.iload_n 2, 1) := by decide +kernel
theorem dX6_film_44 : decode cX6_film 44 = .ok (.invokevirtual 223, 3) := by decide +kernel
theorem dX6_film_47 : decode cX6_film 47 = .ok (.istore 6, 2) := by decide +kernel
theorem dX6_film_49 : decode cX6_film 49 = .ok (.iload 6, 2) := by decide +kernel
theorem dX6_film_51 : decode cX6_film 51 = .ok (.ifCond .ge 6, 3) := by decide +kernel
theorem dX6_film_54 : decode cX6_film 54 = .ok (.iload 6, 2) := by decide +kernel
theorem dX6_film_56 : decode cX6_film 56 = .ok (.ireturn, 1) := by decide +kernel
theorem dX6_film_57 : decode cX6_film 57 = .ok (.iconst 0, 1) := by decide +kernel
theorem dX6_film_58 : decode cX6_film 58 = .ok (.istore 7, 2) := by decide +kernel
theorem dX6_film_60 : decode cX6_film 60 = .ok (.iload 7, 2) := by decide +kernel
theorem dX6_film_62 : decode cX6_film 62 = .ok (.iload_n 2, 1) := by decide +kernel
theorem dX6_film_63 : decode cX6_film 63 = .ok (.if_icmp .ge 32, 3) := by decide +kernel
theorem dX6_film_66 : decode cX6_film 66 = .ok (.aload_n 0, 1) := by decide +kernel
theorem dX6_film_67 : decode cX6_film 67 = .ok (.getfield 34, 3) := by decide +kernel
theorem dX6_film_70 : decode cX6_film 70 = .ok (.bipush 24, 2) := by decide +kernel
theorem dX6_film_72 : decode cX6_film 72 = .ok (.iload_n 3, 1) := by decide +kernel
theorem dX6_film_73 : decode cX6_film 73 = .ok (.imul, 1) := by decide +kernel
theorem dX6_film_74 : decode cX6_film 74 = .ok (.iload 5, 2) := by decide +kernel
theorem dX6_film_76 : decode cX6_film 76 = .ok (.iadd, 1) := by decide +kernel
theorem dX6_film_77 : decode cX6_film 77 = .ok (.iload 7, 2) := by decide +kernel
theorem dX6_film_79 : decode cX6_film 79 = .ok (.iadd, 1) := by decide +kernel
theorem dX6_film_80 : decode cX6_film 80 = .ok (.aload_n 0, 1) := by decide +kernel
theorem dX6_film_81 : decode cX6_film 81 = .ok (.iload_n 1, 1) := by decide +kernel
theorem dX6_film_82 : decode cX6_film 82 = .ok (.iload 7, 2) := by decide +kernel
theorem dX6_film_84 : decode cX6_film 84 = .ok (.invokevirtual 61, 3) := by decide +kernel
theorem dX6_film_87 : decode cX6_film 87 = .ok (.i2l, 1) := by decide +kernel
theorem dX6_film_88 : decode cX6_film 88 = .ok (.lastore, 1) := by decide +kernel
theorem dX6_film_89 : decode cX6_film 89 = .ok (.iinc 7 1, 3) := by decide +kernel
theorem dX6_film_92 : decode cX6_film 92 = .ok (.goto (-32), 3) := by decide +kernel
theorem dX6_film_95 : decode cX6_film 95 = .ok (.iload_n 2, 1) := by decide +kernel
theorem dX6_film_96 : decode cX6_film 96 = .ok (.ireturn, 1) := by decide +kernel
theorem dX6_sheet_0 : decode cX6_sheet 0 = .ok (.iload_n 1, 1) := by decide +kernel
theorem dX6_sheet_1 : decode cX6_sheet 1 = .ok (.invokestatic 217, 3) := by decide +kernel
theorem dX6_sheet_4 : decode cX6_sheet 4 = .ok (.ifCond .eq 16, 3) := by decide +kernel
theorem dX6_sheet_7 : decode cX6_sheet 7 = .ok (.iload_n 2, 1) := by decide +kernel
theorem dX6_sheet_8 : decode cX6_sheet 8 = .ok (.invokestatic 220, 3) := by decide +kernel
theorem dX6_sheet_11 : decode cX6_sheet 11 = .ok (.ifCond .eq 9, 3) := by decide +kernel
theorem dX6_sheet_14 : decode cX6_sheet 14 = .ok (.iload_n 3, 1) := by decide +kernel
theorem dX6_sheet_15 : decode cX6_sheet 15 = .ok (.bipush 24, 2) := by decide +kernel
theorem dX6_sheet_17 : decode cX6_sheet 17 = .ok (.if_icmp .le 5, 3) := by decide +kernel
theorem dX6_sheet_20 : decode cX6_sheet 20 = .ok (.iconst (-1), 1) := by decide +kernel
theorem dX6_sheet_21 : decode cX6_sheet 21 = .ok (.ireturn, 1) := by decide +kernel
theorem dX6_sheet_22 : decode cX6_sheet 22 = .ok (.iload_n 3, 1) := by decide +kernel
theorem dX6_sheet_23 : decode cX6_sheet 23 = .ok (.ifCond .ge 6, 3) := by decide +kernel
theorem dX6_sheet_26 : decode cX6_sheet 26 = .ok (.bipush (-14), 2) := by decide +kernel
theorem dX6_sheet_28 : decode cX6_sheet 28 = .ok (.ireturn, 1) := by decide +kernel
theorem dX6_sheet_29 : decode cX6_sheet 29 = .ok (.aload_n 0, 1) := by decide +kernel
theorem dX6_sheet_30 : decode cX6_sheet 30 = .ok (.getfield 28, 3) := by decide +kernel
theorem dX6_sheet_33 : decode cX6_sheet 33 = .ok (.iload_n 1, 1) := by decide +kernel
theorem dX6_sheet_34 : decode cX6_sheet 34 = .ok (.iload_n 2, 1) := by decide +kernel
theorem dX6_sheet_35 : decode cX6_sheet 35 = .ok (.iastore, 1) := by decide +kernel
theorem dX6_sheet_36 : decode cX6_sheet 36 = .ok (.aload_n 0, 1) := by decide +kernel
theorem dX6_sheet_37 : decode cX6_sheet 37 = .ok (.getfield 31, 3) := by decide +kernel
theorem dX6_sheet_40 : decode cX6_sheet 40 = .ok (.iload_n 1, 1) := by decide +kernel
theorem dX6_sheet_41 : decode cX6_sheet 41 = .ok (.iload_n 3, 1) := by decide +kernel
theorem dX6_sheet_42 : decode cX6_sheet 42 = .ok (.iastore, 1) := by decide +kernel
theorem dX6_sheet_43 : decode cX6_sheet 43 = .ok (.iconst 0, 1) := by decide +kernel
theorem dX6_sheet_44 : decode cX6_sheet 44 = .ok (.istore 4, 2) := by decide +kernel
theorem dX6_sheet_46 : decode cX6_sheet 46 = .ok (.iload 4, 2) := by decide +kernel
theorem dX6_sheet_48 : decode cX6_sheet 48 = .ok (.bipush 24, 2) := by decide +kernel
theorem dX6_sheet_50 : decode cX6_sheet 50 = .ok (.if_icmp .ge 22, 3) := by decide +kernel
theorem dX6_sheet_53 : decode cX6_sheet 53 = .ok (.aload_n 0, 1) := by decide +kernel
theorem dX6_sheet_54 : decode cX6_sheet 54 = .ok (.getfield 34, 3) := by decide +kernel
theorem dX6_sheet_57 : decode cX6_sheet 57 = .ok (.bipush 24, 2) := by decide +kernel
theorem dX6_sheet_59 : decode cX6_sheet 59 = .ok (.iload_n 1, 1) := by decide +kernel
theorem dX6_sheet_60 : decode cX6_sheet 60 = .ok (.imul, 1) := by decide +kernel
theorem dX6_sheet_61 : decode cX6_sheet 61 = .ok (.iload 4, 2) := by decide +kernel
theorem dX6_sheet_63 : decode cX6_sheet 63 = .ok (.iadd, 1) := by decide +kernel
theorem dX6_sheet_64 : decode cX6_sheet 64 = .ok (.lconst 0, 1) := by decide +kernel
theorem dX6_sheet_65 : decode cX6_sheet 65 = .ok (.lastore, 1) := by decide +kernel
theorem dX6_sheet_66 : decode cX6_sheet 66 = .ok (.iinc 4 1, 3) := by decide +kernel
theorem dX6_sheet_69 : decode cX6_sheet 69 = .ok (.goto (-23), 3) := by decide +kernel
theorem dX6_sheet_72 : decode cX6_sheet 72 = .ok (.iload_n 3, 1) := by decide +kernel
theorem dX6_sheet_73 : decode cX6_sheet 73 = .ok (.ireturn, 1) := by decide +kernel
theorem dX6_drop_0 : decode cX6_drop 0 = .ok (.iload_n 1, 1) := by decide +kernel
theorem dX6_drop_1 : decode cX6_drop 1 = .ok (.invokestatic 217, 3) := by decide +kernel
theorem dX6_drop_4 : decode cX6_drop 4 = .ok (.ifCond .ne 5, 3) := by decide +kernel
theorem dX6_drop_7 : decode cX6_drop 7 = .ok (.iconst (-1), 1) := by decide +kernel
theorem dX6_drop_8 : decode cX6_drop 8 = .ok (.ireturn, 1) := by decide +kernel
theorem dX6_drop_9 : decode cX6_drop 9 = .ok (.aload_n 0, 1) := by decide +kernel
theorem dX6_drop_10 : decode cX6_drop 10 = .ok (.getfield 28, 3) := by decide +kernel
theorem dX6_drop_13 : decode cX6_drop 13 = .ok (.iload_n 1, 1) := by decide +kernel
theorem dX6_drop_14 : decode cX6_drop 14 = .ok (.iaload, 1) := by decide +kernel
theorem dX6_drop_15 : decode cX6_drop 15 = .ok (.ifCond .ge 6, 3) := by decide +kernel
theorem dX6_drop_18 : decode cX6_drop 18 = .ok (.bipush (-11), 2) := by decide +kernel
theorem dX6_drop_20 : decode cX6_drop 20 = .ok (.ireturn, 1) := by decide +kernel
theorem dX6_drop_21 : decode cX6_drop 21 = .ok (.aload_n 0, 1) := by decide +kernel
theorem dX6_drop_22 : decode cX6_drop 22 = .ok (.getfield 28, 3) := by decide +kernel
theorem dX6_drop_25 : decode cX6_drop 25 = .ok (.iload_n 1, 1) := by decide +kernel
theorem dX6_drop_26 : decode cX6_drop 26 = .ok (.iconst (-1), 1) := by decide +kernel
theorem dX6_drop_27 : decode cX6_drop 27 = .ok (.iastore, 1) := by decide +kernel
theorem dX6_drop_28 : decode cX6_drop 28 = .ok (.aload_n 0, 1) := by decide +kernel
theorem dX6_drop_29 : decode cX6_drop 29 = .ok (.getfield 31, 3) := by decide +kernel
theorem dX6_drop_32 : decode cX6_drop 32 = .ok (.iload_n 1, 1) := by decide +kernel
theorem dX6_drop_33 : decode cX6_drop 33 = .ok (.iaload, 1) := by decide +kernel
theorem dX6_drop_34 : decode cX6_drop 34 = .ok (.ireturn, 1) := by decide +kernel
theorem dX6_item_0 : decode cX6_item 0 = .ok (.iload_n 1, 1) := by decide +kernel
theorem dX6_item_1 : decode cX6_item 1 = .ok (.invokestatic 217, 3) := by decide +kernel
theorem dX6_item_4 : decode cX6_item 4 = .ok (.ifCond .eq 10, 3) := by decide +kernel
theorem dX6_item_7 : decode cX6_item 7 = .ok (.iload_n 2, 1) := by decide +kernel
theorem dX6_item_8 : decode cX6_item 8 = .ok (.invokestatic 220, 3) := by decide +kernel
theorem dX6_item_11 : decode cX6_item 11 = .ok (.ifCond .ne 5, 3) := by decide +kernel
theorem dX6_item_14 : decode cX6_item 14 = .ok (.iconst (-1), 1) := by decide +kernel
theorem dX6_item_15 : decode cX6_item 15 = .ok (.ireturn, 1) := by decide +kernel
theorem dX6_item_16 : decode cX6_item 16 = .ok (.aload_n 0, 1) := by decide +kernel
theorem dX6_item_17 : decode cX6_item 17 = .ok (.iload_n 1, 1) := by decide +kernel
theorem dX6_item_18 : decode cX6_item 18 = .ok (.iload_n 2, 1) := by decide +kernel
theorem dX6_item_19 : decode cX6_item 19 = .ok (.iload_n 3, 1) := by decide +kernel
theorem dX6_item_20 : decode cX6_item 20 = .ok (.iconst 1, 1) := by decide +kernel
theorem dX6_item_21 : decode cX6_item 21 = .ok (.invokevirtual 223, 3) := by decide +kernel
theorem dX6_item_24 : decode cX6_item 24 = .ok (.istore 6, 2) := by decide +kernel
theorem dX6_item_26 : decode cX6_item 26 = .ok (.iload 6, 2) := by decide +kernel
theorem dX6_item_28 : decode cX6_item 28 = .ok (.ifCond .ge 6, 3) := by decide +kernel
theorem dX6_item_31 : decode cX6_item 31 = .ok (.iload 6, 2) := by decide +kernel
theorem dX6_item_33 : decode cX6_item 33 = .ok (.ireturn, 1) := by decide +kernel
theorem dX6_item_34 : decode cX6_item 34 = .ok (.aload_n 0, 1) := by decide +kernel
theorem dX6_item_35 : decode cX6_item 35 = .ok (.getfield 34, 3) := by decide +kernel
theorem dX6_item_38 : decode cX6_item 38 = .ok (.bipush 24, 2) := by decide +kernel
theorem dX6_item_40 : decode cX6_item 40 = .ok (.iload_n 1, 1) := by decide +kernel
theorem dX6_item_41 : decode cX6_item 41 = .ok (.imul, 1) := by decide +kernel
theorem dX6_item_42 : decode cX6_item 42 = .ok (.iload_n 3, 1) := by decide +kernel
theorem dX6_item_43 : decode cX6_item 43 = .ok (.iadd, 1) := by decide +kernel
theorem dX6_item_44 : decode cX6_item 44 = .ok (.iload_n 2, 1) := by decide +kernel
theorem dX6_item_45 : decode cX6_item 45 = .ok (.ifCond .ne 11, 3) := by decide +kernel
theorem dX6_item_48 : decode cX6_item 48 = .ok (.lload 4, 2) := by decide +kernel
theorem dX6_item_50 : decode cX6_item 50 = .ok (.l2i, 1) := by decide +kernel
theorem dX6_item_51 : decode cX6_item 51 = .ok (.i2b, 1) := by decide +kernel
theorem dX6_item_52 : decode cX6_item 52 = .ok (.i2l, 1) := by decide +kernel
theorem dX6_item_53 : decode cX6_item 53 = .ok (.goto 30, 3) := by decide +kernel
theorem dX6_item_56 : decode cX6_item 56 = .ok (.iload_n 2, 1) := by decide +kernel
theorem dX6_item_57 : decode cX6_item 57 = .ok (.iconst 1, 1) := by decide +kernel
theorem dX6_item_58 : decode cX6_item 58 = .ok (.if_icmp .ne 11, 3) := by decide +kernel
theorem dX6_item_61 : decode cX6_item 61 = .ok (.lload 4, 2) := by decide +kernel
theorem dX6_item_63 : decode cX6_item 63 = .ok (.l2i, 1) := by decide +kernel
theorem dX6_item_64 : decode cX6_item 64 = .ok (.i2s, 1) := by decide +kernel
theorem dX6_item_65 : decode cX6_item 65 = .ok (.i2l, 1) := by decide +kernel
theorem dX6_item_66 : decode cX6_item 66 = .ok (.goto 17, 3) := by decide +kernel
theorem dX6_item_69 : decode cX6_item 69 = .ok (.iload_n 2, 1) := by decide +kernel
theorem dX6_item_70 : decode cX6_item 70 = .ok (.iconst 2, 1) := by decide +kernel
theorem dX6_item_71 : decode cX6_item 71 = .ok (.if_icmp .ne 10, 3) := by decide +kernel
theorem dX6_item_74 : decode cX6_item 74 = .ok (.lload 4, 2) := by decide +kernel
theorem dX6_item_76 : decode cX6_item 76 = .ok (.l2i, 1) := by decide +kernel
theorem dX6_item_77 : decode cX6_item 77 = .ok (.i2l, 1) := by decide +kernel
theorem dX6_item_78 : decode cX6_item 78 = .ok (.goto 5, 3) := by decide +kernel
theorem dX6_item_81 : decode cX6_item 81 = .ok (.lload 4, 2) := by decide +kernel
theorem dX6_item_83 : decode cX6_item 83 = .ok (.lastore, 1) := by decide +kernel
theorem dX6_item_84 : decode cX6_item 84 = .ok (.iconst 1, 1) := by decide +kernel
theorem dX6_item_85 : decode cX6_item 85 = .ok (.ireturn, 1) := by decide +kernel
theorem dX6_copy_0 : decode cX6_copy 0 = .ok (.iload_n 1, 1) := by decide +kernel
theorem dX6_copy_1 : decode cX6_copy 1 = .ok (.invokestatic 217, 3) := by decide +kernel
theorem dX6_copy_4 : decode cX6_copy 4 = .ok (.ifCond .eq 10, 3) := by decide +kernel
theorem dX6_copy_7 : decode cX6_copy 7 = .ok (.iload_n 3, 1) := by decide +kernel
theorem dX6_copy_8 : decode cX6_copy 8 = .ok (.invokestatic 217, 3) := by decide +kernel
theorem dX6_copy_11 : decode cX6_copy 11 = .ok (.ifCond .ne 5, 3) := by decide +kernel
theorem dX6_copy_14 : decode cX6_copy 14 = .ok (.iconst (-1), 1) := by decide +kernel
theorem dX6_copy_15 : decode cX6_copy 15 = .ok (.ireturn, 1) := by decide +kernel
theorem dX6_copy_16 : decode cX6_copy 16 = .ok (.aload_n 0, 1) := by decide +kernel
theorem dX6_copy_17 : decode cX6_copy 17 = .ok (.getfield 28, 3) := by decide +kernel
theorem dX6_copy_20 : decode cX6_copy 20 = .ok (.iload_n 1, 1) := by decide +kernel
theorem dX6_copy_21 : decode cX6_copy 21 = .ok (.iaload, 1) := by decide +kernel
theorem dX6_copy_22 : decode cX6_copy 22 = .ok (.ifCond .lt 12, 3) := by decide +kernel
theorem dX6_copy_25 : decode cX6_copy 25 = .ok (.aload_n 0, 1) := by decide +kernel
theorem dX6_copy_26 : decode cX6_copy 26 = .ok (.getfield 28, 3) := by decide +kernel
theorem dX6_copy_29 : decode cX6_copy 29 = .ok (.iload_n 3, 1) := by decide +kernel
theorem dX6_copy_30 : decode cX6_copy 30 = .ok (.iaload, 1) := by decide +kernel
theorem dX6_copy_31 : decode cX6_copy 31 = .ok (.ifCond .ge 6, 3) := by decide +kernel
theorem dX6_copy_34 : decode cX6_copy 34 = .ok (.bipush (-11), 2) := by decide +kernel
theorem dX6_copy_36 : decode cX6_copy 36 = .ok (.ireturn, 1) := by decide +kernel
theorem dX6_copy_37 : decode cX6_copy 37 = .ok (.aload_n 0, 1) := by decide +kernel
theorem dX6_copy_38 : decode cX6_copy 38 = .ok (.iload_n 3, 1) := by decide +kernel
theorem dX6_copy_39 : decode cX6_copy 39 = .ok (.aload_n 0, 1) := by decide +kernel
theorem dX6_copy_40 : decode cX6_copy 40 = .ok (.getfield 28, 3) := by decide +kernel
theorem dX6_copy_43 : decode cX6_copy 43 = .ok (.iload_n 1, 1) := by decide +kernel
theorem dX6_copy_44 : decode cX6_copy 44 = .ok (.iaload, 1) := by decide +kernel
theorem dX6_copy_45 : decode cX6_copy 45 = .ok (.iload 4, 2) := by decide +kernel
theorem dX6_copy_47 : decode cX6_copy 47 = .ok (.iload 5, 2) := by decide +kernel
theorem dX6_copy_49 : decode cX6_copy 49 = .ok (.invokevirtual 223, 3) := by decide +kernel
theorem dX6_copy_52 : decode cX6_copy 52 = .ok (.istore 6, 2) := by decide +kernel
theorem dX6_copy_54 : decode cX6_copy 54 = .ok (.iload 6, 2) := by decide +kernel
theorem dX6_copy_56 : decode cX6_copy 56 = .ok (.ifCond .ne 20, 3) := by decide +kernel
theorem dX6_copy_59 : decode cX6_copy 59 = .ok (.aload_n 0, 1) := by decide +kernel
theorem dX6_copy_60 : decode cX6_copy 60 = .ok (.iload_n 1, 1) := by decide +kernel
theorem dX6_copy_61 : decode cX6_copy 61 = .ok (.aload_n 0, 1) := by decide +kernel
theorem dX6_copy_62 : decode cX6_copy 62 = .ok (.getfield 28, 3) := by decide +kernel
theorem dX6_copy_65 : decode cX6_copy 65 = .ok (.iload_n 1, 1) := by decide +kernel
theorem dX6_copy_66 : decode cX6_copy 66 = .ok (.iaload, 1) := by decide +kernel
theorem dX6_copy_67 : decode cX6_copy 67 = .ok (.iload_n 2, 1) := by decide +kernel
theorem dX6_copy_68 : decode cX6_copy 68 = .ok (.iload 5, 2) := by decide +kernel
theorem dX6_copy_70 : decode cX6_copy 70 = .ok (.invokevirtual 223, 3) := by decide +kernel
theorem dX6_copy_73 : decode cX6_copy 73 = .ok (.goto 5, 3) := by decide +kernel
theorem dX6_copy_76 : decode cX6_copy 76 = .ok (.iload 6, 2) := by decide +kernel
theorem dX6_copy_78 : decode cX6_copy 78 = .ok (.istore 6, 2) := by decide +kernel
theorem dX6_copy_80 : decode cX6_copy 80 = .ok (.iload 6, 2) := by decide +kernel
theorem dX6_copy_82 : decode cX6_copy 82 = .ok (.ifCond .ge 6, 3) := by decide +kernel
theorem dX6_copy_85 : decode cX6_copy 85 = .ok (.iload 6, 2) := by decide +kernel
theorem dX6_copy_87 : decode cX6_copy 87 = .ok (.ireturn, 1) := by decide +kernel
theorem dX6_copy_88 : decode cX6_copy 88 = .ok (.iconst 0, 1) := by decide +kernel
theorem dX6_copy_89 : decode cX6_copy 89 = .ok (.istore 7, 2) := by decide +kernel
theorem dX6_copy_91 : decode cX6_copy 91 = .ok (.iload 7, 2) := by decide +kernel
theorem dX6_copy_93 : decode cX6_copy 93 = .ok (.iload 5, 2) := by decide +kernel
theorem dX6_copy_95 : decode cX6_copy 95 = .ok (.if_icmp .ge 30, 3) := by decide +kernel
theorem dX6_copy_98 : decode cX6_copy 98 = .ok (.aload_n 0, 1) := by decide +kernel
theorem dX6_copy_99 : decode cX6_copy 99 = .ok (.getfield 38, 3) := by decide +kernel
theorem dX6_copy_102 : decode cX6_copy 102 = .ok (.iload 7, 2) := by decide +kernel
theorem dX6_copy_104 : decode cX6_copy 104 = .ok (.aload_n 0, 1) := by decide +kernel
theorem dX6_copy_105 : decode cX6_copy 105 = .ok (.getfield 34, 3) := by decide +kernel
theorem dX6_copy_108 : decode cX6_copy 108 = .ok (.bipush 24, 2) := by decide +kernel
theorem dX6_copy_110 : decode cX6_copy 110 = .ok (.iload_n 1, 1) := by decide +kernel
theorem dX6_copy_111 : decode cX6_copy 111 = .ok (.imul, 1) := by decide +kernel
theorem dX6_copy_112 : decode cX6_copy 112 = .ok (.iload_n 2, 1) := by decide +kernel
theorem dX6_copy_113 : decode cX6_copy 113 = .ok (.iadd, 1) := by decide +kernel
theorem dX6_copy_114 : decode cX6_copy 114 = .ok (.iload 7, 2) := by decide +kernel
theorem dX6_copy_116 : decode cX6_copy 116 = .ok (.iadd, 1) := by decide +kernel
theorem dX6_copy_117 : decode cX6_copy 117 = .ok (.laload, 1) := by decide +kernel
theorem dX6_copy_118 : decode cX6_copy 118 = .ok (.lastore, 1) := by decide +kernel
theorem dX6_copy_119 : decode cX6_copy 119 = .ok (.iinc 7 1, 3) := by decide +kernel
theorem dX6_copy_122 : decode cX6_copy 122 = .ok (.goto (-31), 3) := by decide +kernel
theorem dX6_copy_125 : decode cX6_copy 125 = .ok (.iconst 0, 1) := by decide +kernel
theorem dX6_copy_126 : decode cX6_copy 126 = .ok (.istore 7, 2) := by decide +kernel
theorem dX6_copy_128 : decode cX6_copy 128 = .ok (.iload 7, 2) := by decide +kernel
theorem dX6_copy_130 : decode cX6_copy 130 = .ok (.iload 5, 2) := by decide +kernel
theorem dX6_copy_132 : decode cX6_copy 132 = .ok (.if_icmp .ge 31, 3) := by decide +kernel
theorem dX6_copy_135 : decode cX6_copy 135 = .ok (.aload_n 0, 1) := by decide +kernel
theorem dX6_copy_136 : decode cX6_copy 136 = .ok (.getfield 34, 3) := by decide +kernel
theorem dX6_copy_139 : decode cX6_copy 139 = .ok (.bipush 24, 2) := by decide +kernel
theorem dX6_copy_141 : decode cX6_copy 141 = .ok (.iload_n 3, 1) := by decide +kernel
theorem dX6_copy_142 : decode cX6_copy 142 = .ok (.imul, 1) := by decide +kernel
theorem dX6_copy_143 : decode cX6_copy 143 = .ok (.iload 4, 2) := by decide +kernel
theorem dX6_copy_145 : decode cX6_copy 145 = .ok (.iadd, 1) := by decide +kernel
theorem dX6_copy_146 : decode cX6_copy 146 = .ok (.iload 7, 2) := by decide +kernel
theorem dX6_copy_148 : decode cX6_copy 148 = .ok (.iadd, 1) := by decide +kernel
theorem dX6_copy_149 : decode cX6_copy 149 = .ok (.aload_n 0, 1) := by decide +kernel
theorem dX6_copy_150 : decode cX6_copy 150 = .ok (.getfield 38, 3) := by decide +kernel
theorem dX6_copy_153 : decode cX6_copy 153 = .ok (.iload 7, 2) := by decide +kernel
theorem dX6_copy_155 : decode cX6_copy 155 = .ok (.laload, 1) := by decide +kernel
theorem dX6_copy_156 : decode cX6_copy 156 = .ok (.lastore, 1) := by decide +kernel
theorem dX6_copy_157 : decode cX6_copy 157 = .ok (.iinc 7 1, 3) := by decide +kernel
theorem dX6_copy_160 : decode cX6_copy 160 = .ok (.goto (-32), 3) := by decide +kernel
theorem dX6_copy_163 : decode cX6_copy 163 = .ok (.iload 5, 2) := by decide +kernel
theorem dX6_copy_165 : decode cX6_copy 165 = .ok (.ireturn, 1) := by decide +kernel
