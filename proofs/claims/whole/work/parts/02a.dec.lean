theorem dX0_init_0 : decode cX0_init 0 = .ok (.aload_n 0, 1) := by decide +kernel
theorem dX0_init_1 : decode cX0_init 1 = .ok (.invokespecial 3, 3) := by decide +kernel
theorem dX0_init_4 : decode cX0_init 4 = .ok (.aload_n 0, 1) := by decide +kernel
theorem dX0_init_5 : decode cX0_init 5 = .ok (.bipush 15, 2) := by decide +kernel
theorem dX0_init_7 : decode cX0_init 7 = .ok (.newarray .int, 2) := by decide +kernel
theorem dX0_init_9 : decode cX0_init 9 = .ok (.putfield 9, 3) := by decide +kernel
theorem dX0_init_12 : decode cX0_init 12 = .ok (.aload_n 0, 1) := by decide +kernel
theorem dX0_init_13 : decode cX0_init 13 = .ok (.bipush 15, 2) := by decide +kernel
theorem dX0_init_15 : decode cX0_init 15 = .ok (.newarray .int, 2) := by decide +kernel
theorem dX0_init_17 : decode cX0_init 17 = .ok (.putfield 15, 3) := by decide +kernel
theorem dX0_init_20 : decode cX0_init 20 = .ok (.return_, 1) := by decide +kernel
theorem dX0_add_0 : decode cX0_add 0 = .ok (.aload_n 0, 1) := by decide +kernel
theorem dX0_add_1 : decode cX0_add 1 = .ok (.getfield 18, 3) := by decide +kernel
theorem dX0_add_4 : decode cX0_add 4 = .ok (.bipush 15, 2) := by decide +kernel
theorem dX0_add_6 : decode cX0_add 6 = .ok (.if_icmp .ge 33, 3) := by decide +kernel
theorem dX0_add_9 : decode cX0_add 9 = .ok (.aload_n 0, 1) := by decide +kernel
theorem dX0_add_10 : decode cX0_add 10 = .ok (.getfield 9, 3) := by decide +kernel
theorem dX0_add_13 : decode cX0_add 13 = .ok (.aload_n 0, 1) := by decide +kernel
theorem dX0_add_14 : decode cX0_add 14 = .ok (.getfield 18, 3) := by decide +kernel
theorem dX0_add_17 : decode cX0_add 17 = .ok (.iload_n 1, 1) := by decide +kernel
theorem dX0_add_18 : decode cX0_add 18 = .ok (.iastore, 1) := by decide +kernel
theorem dX0_add_19 : decode cX0_add 19 = .ok (.aload_n 0, 1) := by decide +kernel
theorem dX0_add_20 : decode cX0_add 20 = .ok (.getfield 15, 3) := by decide +kernel
theorem dX0_add_23 : decode cX0_add 23 = .ok (.aload_n 0, 1) := by decide +kernel
theorem dX0_add_24 : decode cX0_add 24 = .ok (.getfield 18, 3) := by decide +kernel
theorem dX0_add_27 : decode cX0_add 27 = .ok (.iload_n 2, 1) := by decide +kernel
theorem dX0_add_28 : decode cX0_add 28 = .ok (.iastore, 1) := by decide +kernel
theorem dX0_add_29 : decode cX0_add 29 = .ok (.aload_n 0, 1) := by decide +kernel
theorem dX0_add_30 : decode cX0_add 30 = .ok (.dup, 1) := by decide +kernel
theorem dX0_add_31 : decode cX0_add 31 = .ok (.getfield 18, 3) := by decide +kernel
theorem dX0_add_34 : decode cX0_add 34 = .ok (.iconst 1, 1) := by decide +kernel
theorem dX0_add_35 : decode cX0_add 35 = .ok (.iadd, 1) := by decide +kernel
theorem dX0_add_36 : decode cX0_add 36 = .ok (.putfield 18, 3) := by decide +kernel
theorem dX0_add_39 : decode cX0_add 39 = .ok (.return_, 1) := by decide +kernel
theorem dX0_firstWrong_0 : decode cX0_firstWrong 0 = .ok (.iconst 0, 1) := by decide +kernel
theorem dX0_firstWrong_1 : decode cX0_firstWrong 1 = .ok (.istore_n 2, 1) := by decide +kernel
theorem dX0_firstWrong_2 : decode cX0_firstWrong 2 = .ok (.iload_n 2, 1) := by decide +kernel
theorem dX0_firstWrong_3 : decode cX0_firstWrong 3 = .ok (.aload_n 0, 1) := by decide +kernel
theorem dX0_firstWrong_4 : decode cX0_firstWrong 4 = .ok (.getfield 18, 3) := by decide +kernel
theorem dX0_firstWrong_7 : decode cX0_firstWrong 7 = .ok (.if_icmp .ge 31, 3) := by decide +kernel
theorem dX0_firstWrong_10 : decode cX0_firstWrong 10 = .ok (.aload_n 1, 1) := by decide +kernel
theorem dX0_firstWrong_11 : decode cX0_firstWrong 11 = .ok (.getfield 22, 3) := by decide +kernel
theorem dX0_firstWrong_14 : decode cX0_firstWrong 14 = .ok (.aload_n 0, 1) := by decide +kernel
theorem dX0_firstWrong_15 : decode cX0_firstWrong 15 = .ok (.getfield 9, 3) := by decide +kernel
theorem dX0_firstWrong_18 : decode cX0_firstWrong 18 = .ok (.iload_n 2, 1) := by decide +kernel
theorem dX0_firstWrong_19 : decode cX0_firstWrong 19 = .ok (.iaload, 1) := by decide +kernel
theorem dX0_firstWrong_20 : decode cX0_firstWrong 20 = .ok (.iaload, 1) := by decide +kernel
theorem dX0_firstWrong_21 : decode cX0_firstWrong 21 = .ok (.aload_n 0, 1) := by decide +kernel
theorem dX0_firstWrong_22 : decode cX0_firstWrong 22 = .ok (.getfield 15, 3) := by decide +kernel
theorem dX0_firstWrong_25 : decode cX0_firstWrong 25 = .ok (.iload_n 2, 1) := by decide +kernel
theorem dX0_firstWrong_26 : decode cX0_firstWrong 26 = .ok (.iaload, 1) := by decide +kernel
theorem dX0_firstWrong_27 : decode cX0_firstWrong 27 = .ok (.if_icmp .eq 5, 3) := by decide +kernel
theorem dX0_firstWrong_30 : decode cX0_firstWrong 30 = .ok (.iload_n 2, 1) := by decide +kernel
theorem dX0_firstWrong_31 : decode cX0_firstWrong 31 = .ok (.ireturn, 1) := by decide +kernel
theorem dX0_firstWrong_32 : decode cX0_firstWrong 32 = .ok (.iinc 2 1, 3) := by decide +kernel
theorem dX0_firstWrong_35 : decode cX0_firstWrong 35 = .ok (.goto (-33), 3) := by decide +kernel
theorem dX0_firstWrong_38 : decode cX0_firstWrong 38 = .ok (.iconst (-1), 1) := by decide +kernel
theorem dX0_firstWrong_39 : decode cX0_firstWrong 39 = .ok (.ireturn, 1) := by decide +kernel
theorem dX1_init_0 : decode cX1_init 0 = .ok (.aload_n 0, 1) := by decide +kernel
theorem dX1_init_1 : decode cX1_init 1 = .ok (.invokespecial 1, 3) := by decide +kernel
theorem dX1_init_4 : decode cX1_init 4 = .ok (.aload_n 0, 1) := by decide +kernel
theorem dX1_init_5 : decode cX1_init 5 = .ok (.new 7, 3) := by decide +kernel
theorem dX1_init_8 : decode cX1_init 8 = .ok (.dup, 1) := by decide +kernel
theorem dX1_init_9 : decode cX1_init 9 = .ok (.invokespecial 9, 3) := by decide +kernel
theorem dX1_init_12 : decode cX1_init 12 = .ok (.putfield 10, 3) := by decide +kernel
theorem dX1_init_15 : decode cX1_init 15 = .ok (.return_, 1) := by decide +kernel
theorem dX2_init_0 : decode cX2_init 0 = .ok (.aload_n 0, 1) := by decide +kernel
theorem dX2_init_1 : decode cX2_init 1 = .ok (.invokespecial 3, 3) := by decide +kernel
theorem dX2_init_4 : decode cX2_init 4 = .ok (.aload_n 0, 1) := by decide +kernel
theorem dX2_init_5 : decode cX2_init 5 = .ok (.bipush 8, 2) := by decide +kernel
theorem dX2_init_7 : decode cX2_init 7 = .ok (.newarray .int, 2) := by decide +kernel
theorem dX2_init_9 : decode cX2_init 9 = .ok (.putfield 9, 3) := by decide +kernel
theorem dX2_init_12 : decode cX2_init 12 = .ok (.aload_n 0, 1) := by decide +kernel
theorem dX2_init_13 : decode cX2_init 13 = .ok (.bipush 8, 2) := by decide +kernel
theorem dX2_init_15 : decode cX2_init 15 = .ok (.newarray .int, 2) := by decide +kernel
theorem dX2_init_17 : decode cX2_init 17 = .ok (.putfield 15, 3) := by decide +kernel
theorem dX2_init_20 : decode cX2_init 20 = .ok (.aload_n 0, 1) := by decide +kernel
theorem dX2_init_21 : decode cX2_init 21 = .ok (.sipush 256, 3) := by decide +kernel
theorem dX2_init_24 : decode cX2_init 24 = .ok (.newarray .int, 2) := by decide +kernel
theorem dX2_init_26 : decode cX2_init 26 = .ok (.putfield 18, 3) := by decide +kernel
theorem dX2_init_29 : decode cX2_init 29 = .ok (.aload_n 0, 1) := by decide +kernel
theorem dX2_init_30 : decode cX2_init 30 = .ok (.sipush 256, 3) := by decide +kernel
theorem dX2_init_33 : decode cX2_init 33 = .ok (.newarray .int, 2) := by decide +kernel
theorem dX2_init_35 : decode cX2_init 35 = .ok (.putfield 21, 3) := by decide +kernel
theorem dX2_init_38 : decode cX2_init 38 = .ok (.return_, 1) := by decide +kernel
theorem dX2_fewest_0 : decode cX2_fewest 0 = .ok (.aload_n 0, 1) := by decide +kernel
theorem dX2_fewest_1 : decode cX2_fewest 1 = .ok (.aload_n 1, 1) := by decide +kernel
theorem dX2_fewest_2 : decode cX2_fewest 2 = .ok (.aload_n 2, 1) := by decide +kernel
theorem dX2_fewest_3 : decode cX2_fewest 3 = .ok (.invokevirtual 24, 3) := by decide +kernel
theorem dX2_fewest_6 : decode cX2_fewest 6 = .ok (.iconst 1, 1) := by decide +kernel
theorem dX2_fewest_7 : decode cX2_fewest 7 = .ok (.aload_n 0, 1) := by decide +kernel
theorem dX2_fewest_8 : decode cX2_fewest 8 = .ok (.getfield 28, 3) := by decide +kernel
theorem dX2_fewest_11 : decode cX2_fewest 11 = .ok (.ishl, 1) := by decide +kernel
theorem dX2_fewest_12 : decode cX2_fewest 12 = .ok (.iconst 1, 1) := by decide +kernel
theorem dX2_fewest_13 : decode cX2_fewest 13 = .ok (.isub, 1) := by decide +kernel
theorem dX2_fewest_14 : decode cX2_fewest 14 = .ok (.istore_n 3, 1) := by decide +kernel
theorem dX2_fewest_15 : decode cX2_fewest 15 = .ok (.aload_n 0, 1) := by decide +kernel
theorem dX2_fewest_16 : decode cX2_fewest 16 = .ok (.getfield 18, 3) := by decide +kernel
theorem dX2_fewest_19 : decode cX2_fewest 19 = .ok (.iconst 0, 1) := by decide +kernel
theorem dX2_fewest_20 : decode cX2_fewest 20 = .ok (.iconst 0, 1) := by decide +kernel
theorem dX2_fewest_21 : decode cX2_fewest 21 = .ok (.iastore, 1) := by decide +kernel
theorem dX2_fewest_22 : decode cX2_fewest 22 = .ok (.aload_n 0, 1) := by decide +kernel
theorem dX2_fewest_23 : decode cX2_fewest 23 = .ok (.getfield 21, 3) := by decide +kernel
theorem dX2_fewest_26 : decode cX2_fewest 26 = .ok (.iconst 0, 1) := by decide +kernel
theorem dX2_fewest_27 : decode cX2_fewest 27 = .ok (.iconst 0, 1) := by decide +kernel
theorem dX2_fewest_28 : decode cX2_fewest 28 = .ok (.iastore, 1) := by decide +kernel
theorem dX2_fewest_29 : decode cX2_fewest 29 = .ok (.iconst 1, 1) := by decide +kernel
theorem dX2_fewest_30 : decode cX2_fewest 30 = .ok (.istore 4, 2) := by decide +kernel
theorem dX2_fewest_32 : decode cX2_fewest 32 = .ok (.iload 4, 2) := by decide +kernel
theorem dX2_fewest_34 : decode cX2_fewest 34 = .ok (.iload_n 3, 1) := by decide +kernel
theorem dX2_fewest_35 : decode cX2_fewest 35 = .ok (.if_icmp .gt 15, 3) := by decide +kernel
theorem dX2_fewest_38 : decode cX2_fewest 38 = .ok (.aload_n 0, 1) := by decide +kernel
theorem dX2_fewest_39 : decode cX2_fewest 39 = .ok (.iload 4, 2) := by decide +kernel
theorem dX2_fewest_41 : decode cX2_fewest 41 = .ok (.invokevirtual 32, 3) := by decide +kernel
theorem dX2_fewest_44 : decode cX2_fewest 44 = .ok (.iinc 4 1, 3) := by decide +kernel
theorem dX2_fewest_47 : decode cX2_fewest 47 = .ok (.goto (-15), 3) := by decide +kernel
theorem dX2_fewest_50 : decode cX2_fewest 50 = .ok (.aload_n 0, 1) := by decide +kernel
theorem dX2_fewest_51 : decode cX2_fewest 51 = .ok (.getfield 18, 3) := by decide +kernel
theorem dX2_fewest_54 : decode cX2_fewest 54 = .ok (.iload_n 3, 1) := by decide +kernel
theorem dX2_fewest_55 : decode cX2_fewest 55 = .ok (.iaload, 1) := by decide +kernel
theorem dX2_fewest_56 : decode cX2_fewest 56 = .ok (.ifCond .ne 17, 3) := by decide +kernel
theorem dX2_fewest_59 : decode cX2_fewest 59 = .ok (.aload_n 0, 1) := by decide +kernel
theorem dX2_fewest_60 : decode cX2_fewest 60 = .ok (.getfield 28, 3) := by decide +kernel
theorem dX2_fewest_63 : decode cX2_fewest 63 = .ok (.aload_n 0, 1) := by decide +kernel
theorem dX2_fewest_64 : decode cX2_fewest 64 = .ok (.getfield 21, 3) := by decide +kernel
theorem dX2_fewest_67 : decode cX2_fewest 67 = .ok (.iload_n 3, 1) := by decide +kernel
theorem dX2_fewest_68 : decode cX2_fewest 68 = .ok (.iaload, 1) := by decide +kernel
theorem dX2_fewest_69 : decode cX2_fewest 69 = .ok (.isub, 1) := by decide +kernel
theorem dX2_fewest_70 : decode cX2_fewest 70 = .ok (.goto 4, 3) := by decide +kernel
theorem dX2_fewest_73 : decode cX2_fewest 73 = .ok (.iconst (-1), 1) := by decide +kernel
theorem dX2_fewest_74 : decode cX2_fewest 74 = .ok (.ireturn, 1) := by decide +kernel
theorem dX2_leastOpening_0 : decode cX2_leastOpening 0 = .ok (.aload_n 0, 1) := by decide +kernel
theorem dX2_leastOpening_1 : decode cX2_leastOpening 1 = .ok (.aload_n 1, 1) := by decide +kernel
theorem dX2_leastOpening_2 : decode cX2_leastOpening 2 = .ok (.aload_n 2, 1) := by decide +kernel
theorem dX2_leastOpening_3 : decode cX2_leastOpening 3 = .ok (.invokevirtual 36, 3) := by decide +kernel
theorem dX2_leastOpening_6 : decode cX2_leastOpening 6 = .ok (.ifCond .gt 5, 3) := by decide +kernel
theorem dX2_leastOpening_9 : decode cX2_leastOpening 9 = .ok (.iconst (-1), 1) := by decide +kernel
theorem dX2_leastOpening_10 : decode cX2_leastOpening 10 = .ok (.ireturn, 1) := by decide +kernel
theorem dX2_leastOpening_11 : decode cX2_leastOpening 11 = .ok (.iconst 1, 1) := by decide +kernel
theorem dX2_leastOpening_12 : decode cX2_leastOpening 12 = .ok (.aload_n 0, 1) := by decide +kernel
theorem dX2_leastOpening_13 : decode cX2_leastOpening 13 = .ok (.getfield 28, 3) := by decide +kernel
theorem dX2_leastOpening_16 : decode cX2_leastOpening 16 = .ok (.ishl, 1) := by decide +kernel
theorem dX2_leastOpening_17 : decode cX2_leastOpening 17 = .ok (.iconst 1, 1) := by decide +kernel
theorem dX2_leastOpening_18 : decode cX2_leastOpening 18 = .ok (.isub, 1) := by decide +kernel
theorem dX2_leastOpening_19 : decode cX2_leastOpening 19 = .ok (.istore_n 3, 1) := by decide +kernel
theorem dX2_leastOpening_20 : decode cX2_leastOpening 20 = .ok (.iconst (-1), 1) := by decide +kernel
theorem dX2_leastOpening_21 : decode cX2_leastOpening 21 = .ok (.istore 4, 2) := by decide +kernel
theorem dX2_leastOpening_23 : decode cX2_leastOpening 23 = .ok (.iconst 1, 1) := by decide +kernel
theorem dX2_leastOpening_24 : decode cX2_leastOpening 24 = .ok (.istore 5, 2) := by decide +kernel
theorem dX2_leastOpening_26 : decode cX2_leastOpening 26 = .ok (.iload 5, 2) := by decide +kernel
theorem dX2_leastOpening_28 : decode cX2_leastOpening 28 = .ok (.iload_n 3, 1) := by decide +kernel
theorem dX2_leastOpening_29 : decode cX2_leastOpening 29 = .ok (.if_icmp .gt 67, 3) := by decide +kernel
theorem dX2_leastOpening_32 : decode cX2_leastOpening 32 = .ok (.aload_n 0, 1) := by decide +kernel
theorem dX2_leastOpening_33 : decode cX2_leastOpening 33 = .ok (.getfield 18, 3) := by decide +kernel
theorem dX2_leastOpening_36 : decode cX2_leastOpening 36 = .ok (.iload 5, 2) := by decide +kernel
theorem dX2_leastOpening_38 : decode cX2_leastOpening 38 = .ok (.iaload, 1) := by decide +kernel
theorem dX2_leastOpening_39 : decode cX2_leastOpening 39 = .ok (.ifCond .ne 51, 3) := by decide +kernel
theorem dX2_leastOpening_42 : decode cX2_leastOpening 42 = .ok (.aload_n 0, 1) := by decide +kernel
theorem dX2_leastOpening_43 : decode cX2_leastOpening 43 = .ok (.getfield 21, 3) := by decide +kernel
theorem dX2_leastOpening_46 : decode cX2_leastOpening 46 = .ok (.iload_n 3, 1) := by decide +kernel
theorem dX2_leastOpening_47 : decode cX2_leastOpening 47 = .ok (.iload 5, 2) := by decide +kernel
theorem dX2_leastOpening_49 : decode cX2_leastOpening 49 = .ok (.ixor, 1) := by decide +kernel
theorem dX2_leastOpening_50 : decode cX2_leastOpening 50 = .ok (.iaload, 1) := by decide +kernel
theorem dX2_leastOpening_51 : decode cX2_leastOpening 51 = .ok (.iconst 1, 1) := by decide +kernel
theorem dX2_leastOpening_52 : decode cX2_leastOpening 52 = .ok (.iadd, 1) := by decide +kernel
theorem dX2_leastOpening_53 : decode cX2_leastOpening 53 = .ok (.aload_n 0, 1) := by decide +kernel
theorem dX2_leastOpening_54 : decode cX2_leastOpening 54 = .ok (.getfield 21, 3) := by decide +kernel
theorem dX2_leastOpening_57 : decode cX2_leastOpening 57 = .ok (.iload_n 3, 1) := by decide +kernel
theorem dX2_leastOpening_58 : decode cX2_leastOpening 58 = .ok (.iaload, 1) := by decide +kernel
theorem dX2_leastOpening_59 : decode cX2_leastOpening 59 = .ok (.if_icmp .ne 31, 3) := by decide +kernel
theorem dX2_leastOpening_62 : decode cX2_leastOpening 62 = .ok (.aload_n 0, 1) := by decide +kernel
theorem dX2_leastOpening_63 : decode cX2_leastOpening 63 = .ok (.iload 5, 2) := by decide +kernel
theorem dX2_leastOpening_65 : decode cX2_leastOpening 65 = .ok (.invokevirtual 40, 3) := by decide +kernel
theorem dX2_leastOpening_68 : decode cX2_leastOpening 68 = .ok (.istore 6, 2) := by decide +kernel
theorem dX2_leastOpening_70 : decode cX2_leastOpening 70 = .ok (.iload 4, 2) := by decide +kernel
theorem dX2_leastOpening_72 : decode cX2_leastOpening 72 = .ok (.iconst (-1), 1) := by decide +kernel
theorem dX2_leastOpening_73 : decode cX2_leastOpening 73 = .ok (.if_icmp .ne 8, 3) := by decide +kernel
theorem dX2_leastOpening_76 : decode cX2_leastOpening 76 = .ok (.iload 6, 2) := by decide +kernel
theorem dX2_leastOpening_78 : decode cX2_leastOpening 78 = .ok (.goto 10, 3) := by decide +kernel
theorem dX2_leastOpening_81 : decode cX2_leastOpening 81 = .ok (.iload 4, 2) := by decide +kernel
theorem dX2_leastOpening_83 : decode cX2_leastOpening 83 = .ok (.iload 6, 2) := by decide +kernel
theorem dX2_leastOpening_85 : decode cX2_leastOpening 85 = .ok (.invokestatic 44, 3) := by decide +kernel
theorem dX2_leastOpening_88 : decode cX2_leastOpening 88 = .ok (.istore 4, 2) := by decide +kernel
theorem dX2_leastOpening_90 : decode cX2_leastOpening 90 = .ok (.iinc 5 1, 3) := by decide +kernel
theorem dX2_leastOpening_93 : decode cX2_leastOpening 93 = .ok (.goto (-67), 3) := by decide +kernel
theorem dX2_leastOpening_96 : decode cX2_leastOpening 96 = .ok (.iload 4, 2) := by decide +kernel
theorem dX2_leastOpening_98 : decode cX2_leastOpening 98 = .ok (.ireturn, 1) := by decide +kernel
theorem dX2_leastPair_0 : decode cX2_leastPair 0 = .ok (.iconst (-1), 1) := by decide +kernel
theorem dX2_leastPair_1 : decode cX2_leastPair 1 = .ok (.istore_n 2, 1) := by decide +kernel
theorem dX2_leastPair_2 : decode cX2_leastPair 2 = .ok (.iconst 0, 1) := by decide +kernel
theorem dX2_leastPair_3 : decode cX2_leastPair 3 = .ok (.istore_n 3, 1) := by decide +kernel
theorem dX2_leastPair_4 : decode cX2_leastPair 4 = .ok (.iload_n 3, 1) := by decide +kernel
theorem dX2_leastPair_5 : decode cX2_leastPair 5 = .ok (.aload_n 0, 1) := by decide +kernel
theorem dX2_leastPair_6 : decode cX2_leastPair 6 = .ok (.getfield 28, 3) := by decide +kernel
theorem dX2_leastPair_9 : decode cX2_leastPair 9 = .ok (.if_icmp .ge 42, 3) := by decide +kernel
theorem dX2_leastPair_12 : decode cX2_leastPair 12 = .ok (.iload_n 1, 1) := by decide +kernel
theorem dX2_leastPair_13 : decode cX2_leastPair 13 = .ok (.iload_n 3, 1) := by decide +kernel
theorem dX2_leastPair_14 : decode cX2_leastPair 14 = .ok (.ishr, 1) := by decide +kernel
theorem dX2_leastPair_15 : decode cX2_leastPair 15 = .ok (.iconst 1, 1) := by decide +kernel
theorem dX2_leastPair_16 : decode cX2_leastPair 16 = .ok (.iand, 1) := by decide +kernel
theorem dX2_leastPair_17 : decode cX2_leastPair 17 = .ok (.iconst 1, 1) := by decide +kernel
theorem dX2_leastPair_18 : decode cX2_leastPair 18 = .ok (.if_icmp .ne 27, 3) := by decide +kernel
theorem dX2_leastPair_21 : decode cX2_leastPair 21 = .ok (.iload_n 2, 1) := by decide +kernel
theorem dX2_leastPair_22 : decode cX2_leastPair 22 = .ok (.iconst (-1), 1) := by decide +kernel
theorem dX2_leastPair_23 : decode cX2_leastPair 23 = .ok (.if_icmp .eq 15, 3) := by decide +kernel
theorem dX2_leastPair_26 : decode cX2_leastPair 26 = .ok (.bipush 10, 2) := by decide +kernel
theorem dX2_leastPair_28 : decode cX2_leastPair 28 = .ok (.iload_n 2, 1) := by decide +kernel
theorem dX2_leastPair_29 : decode cX2_leastPair 29 = .ok (.imul, 1) := by decide +kernel
theorem dX2_leastPair_30 : decode cX2_leastPair 30 = .ok (.aload_n 0, 1) := by decide +kernel
theorem dX2_leastPair_31 : decode cX2_leastPair 31 = .ok (.getfield 9, 3) := by decide +kernel
theorem dX2_leastPair_34 : decode cX2_leastPair 34 = .ok (.iload_n 3, 1) := by decide +kernel
theorem dX2_leastPair_35 : decode cX2_leastPair 35 = .ok (.iaload, 1) := by decide +kernel
theorem dX2_leastPair_36 : decode cX2_leastPair 36 = .ok (.iadd, 1) := by decide +kernel
theorem dX2_leastPair_37 : decode cX2_leastPair 37 = .ok (.ireturn, 1) := by decide +kernel
theorem dX2_leastPair_38 : decode cX2_leastPair 38 = .ok (.aload_n 0, 1) := by decide +kernel
theorem dX2_leastPair_39 : decode cX2_leastPair 39 = .ok (.getfield 9, 3) := by decide +kernel
theorem dX2_leastPair_42 : decode cX2_leastPair 42 = .ok (.iload_n 3, 1) := by decide +kernel
theorem dX2_leastPair_43 : decode cX2_leastPair 43 = .ok (.iaload, 1) := by decide +kernel
theorem dX2_leastPair_44 : decode cX2_leastPair 44 = .ok (.istore_n 2, 1) := by decide +kernel
theorem dX2_leastPair_45 : decode cX2_leastPair 45 = .ok (.iinc 3 1, 3) := by decide +kernel
theorem dX2_leastPair_48 : decode cX2_leastPair 48 = .ok (.goto (-44), 3) := by decide +kernel
theorem dX2_leastPair_51 : decode cX2_leastPair 51 = .ok (.iconst (-1), 1) := by decide +kernel
theorem dX2_leastPair_52 : decode cX2_leastPair 52 = .ok (.ireturn, 1) := by decide +kernel
theorem dX2_gatherStrays_0 : decode cX2_gatherStrays 0 = .ok (.aload_n 0, 1) := by decide +kernel
theorem dX2_gatherStrays_1 : decode cX2_gatherStrays 1 = .ok (.iconst 0, 1) := by decide +kernel
theorem dX2_gatherStrays_2 : decode cX2_gatherStrays 2 = .ok (.putfield 28, 3) := by decide +kernel
theorem dX2_gatherStrays_5 : decode cX2_gatherStrays 5 = .ok (.iconst 0, 1) := by decide +kernel
theorem dX2_gatherStrays_6 : decode cX2_gatherStrays 6 = .ok (.istore_n 3, 1) := by decide +kernel
theorem dX2_gatherStrays_7 : decode cX2_gatherStrays 7 = .ok (.iload_n 3, 1) := by decide +kernel
theorem dX2_gatherStrays_8 : decode cX2_gatherStrays 8 = .ok (.aload_n 1, 1) := by decide +kernel
theorem dX2_gatherStrays_9 : decode cX2_gatherStrays 9 = .ok (.getfield 50, 3) := by decide +kernel
theorem dX2_gatherStrays_12 : decode cX2_gatherStrays 12 = .ok (.if_icmp .ge 74, 3) := by decide +kernel
theorem dX2_gatherStrays_15 : decode cX2_gatherStrays 15 = .ok (.aload_n 2, 1) := by decide +kernel
theorem dX2_gatherStrays_16 : decode cX2_gatherStrays 16 = .ok (.getfield 55, 3) := by decide +kernel
theorem dX2_gatherStrays_19 : decode cX2_gatherStrays 19 = .ok (.iload_n 3, 1) := by decide +kernel
theorem dX2_gatherStrays_20 : decode cX2_gatherStrays 20 = .ok (.iaload, 1) := by decide +kernel
theorem dX2_gatherStrays_21 : decode cX2_gatherStrays 21 = .ok (.aload_n 1, 1) := by decide +kernel
theorem dX2_gatherStrays_22 : decode cX2_gatherStrays 22 = .ok (.getfield 60, 3) := by decide +kernel
theorem dX2_gatherStrays_25 : decode cX2_gatherStrays 25 = .ok (.iload_n 3, 1) := by decide +kernel
theorem dX2_gatherStrays_26 : decode cX2_gatherStrays 26 = .ok (.iaload, 1) := by decide +kernel
theorem dX2_gatherStrays_27 : decode cX2_gatherStrays 27 = .ok (.if_icmp .eq 53, 3) := by decide +kernel
theorem dX2_gatherStrays_30 : decode cX2_gatherStrays 30 = .ok (.aload_n 0, 1) := by decide +kernel
theorem dX2_gatherStrays_31 : decode cX2_gatherStrays 31 = .ok (.getfield 9, 3) := by decide +kernel
theorem dX2_gatherStrays_34 : decode cX2_gatherStrays 34 = .ok (.aload_n 0, 1) := by decide +kernel
theorem dX2_gatherStrays_35 : decode cX2_gatherStrays 35 = .ok (.getfield 28, 3) := by decide +kernel
theorem dX2_gatherStrays_38 : decode cX2_gatherStrays 38 = .ok (.iload_n 3, 1) := by decide +kernel
theorem dX2_gatherStrays_39 : decode cX2_gatherStrays 39 = .ok (.iastore, 1) := by decide +kernel
theorem dX2_gatherStrays_40 : decode cX2_gatherStrays 40 = .ok (.aload_n 0, 1) := by decide +kernel
theorem dX2_gatherStrays_41 : decode cX2_gatherStrays 41 = .ok (.getfield 15, 3) := by decide +kernel
theorem dX2_gatherStrays_44 : decode cX2_gatherStrays 44 = .ok (.aload_n 0, 1) := by decide +kernel
theorem dX2_gatherStrays_45 : decode cX2_gatherStrays 45 = .ok (.getfield 28, 3) := by decide +kernel
theorem dX2_gatherStrays_48 : decode cX2_gatherStrays 48 = .ok (.iconst 1, 1) := by decide +kernel
theorem dX2_gatherStrays_49 : decode cX2_gatherStrays 49 = .ok (.iconst 4, 1) := by decide +kernel
theorem dX2_gatherStrays_50 : decode cX2_gatherStrays 50 = .ok (.aload_n 2, 1) := by decide +kernel
theorem dX2_gatherStrays_51 : decode cX2_gatherStrays 51 = .ok (.getfield 55, 3) := by decide +kernel
theorem dX2_gatherStrays_54 : decode cX2_gatherStrays 54 = .ok (.iload_n 3, 1) := by decide +kernel
theorem dX2_gatherStrays_55 : decode cX2_gatherStrays 55 = .ok (.iaload, 1) := by decide +kernel
theorem dX2_gatherStrays_56 : decode cX2_gatherStrays 56 = .ok (.imul, 1) := by decide +kernel
theorem dX2_gatherStrays_57 : decode cX2_gatherStrays 57 = .ok (.ishl, 1) := by decide +kernel
theorem dX2_gatherStrays_58 : decode cX2_gatherStrays 58 = .ok (.iconst 1, 1) := by decide +kernel
theorem dX2_gatherStrays_59 : decode cX2_gatherStrays 59 = .ok (.iconst 4, 1) := by decide +kernel
theorem dX2_gatherStrays_60 : decode cX2_gatherStrays 60 = .ok (.aload_n 1, 1) := by decide +kernel
theorem dX2_gatherStrays_61 : decode cX2_gatherStrays 61 = .ok (.getfield 60, 3) := by decide +kernel
theorem dX2_gatherStrays_64 : decode cX2_gatherStrays 64 = .ok (.iload_n 3, 1) := by decide +kernel
theorem dX2_gatherStrays_65 : decode cX2_gatherStrays 65 = .ok (.iaload, 1) := by decide +kernel
theorem dX2_gatherStrays_66 : decode cX2_gatherStrays 66 = .ok (.imul, 1) := by decide +kernel
theorem dX2_gatherStrays_67 : decode cX2_gatherStrays 67 = .ok (.ishl, 1) := by decide +kernel
theorem dX2_gatherStrays_68 : decode cX2_gatherStrays 68 = .ok (.isub, 1) := by decide +kernel
theorem dX2_gatherStrays_69 : decode cX2_gatherStrays 69 = .ok (.iastore, 1) := by decide +kernel
theorem dX2_gatherStrays_70 : decode cX2_gatherStrays 70 = .ok (.aload_n 0, 1) := by decide +kernel
theorem dX2_gatherStrays_71 : decode cX2_gatherStrays 71 = .ok (.dup, 1) := by decide +kernel
theorem dX2_gatherStrays_72 : decode cX2_gatherStrays 72 = .ok (.getfield 28, 3) := by decide +kernel
theorem dX2_gatherStrays_75 : decode cX2_gatherStrays 75 = .ok (.iconst 1, 1) := by decide +kernel
theorem dX2_gatherStrays_76 : decode cX2_gatherStrays 76 = .ok (.iadd, 1) := by decide +kernel
theorem dX2_gatherStrays_77 : decode cX2_gatherStrays 77 = .ok (.putfield 28, 3) := by decide +kernel
theorem dX2_gatherStrays_80 : decode cX2_gatherStrays 80 = .ok (.iinc 3 1, 3) := by decide +kernel
theorem dX2_gatherStrays_83 : decode cX2_gatherStrays 83 = .ok (.goto (-76), 3) := by decide +kernel
theorem dX2_gatherStrays_86 : decode cX2_gatherStrays 86 = .ok (.return_, 1) := by decide +kernel
theorem dX2_countRings_0 : decode cX2_countRings 0 = .ok (.iconst 0, 1) := by decide +kernel
theorem dX2_countRings_1 : decode cX2_countRings 1 = .ok (.istore_n 2, 1) := by decide +kernel
theorem dX2_countRings_2 : decode cX2_countRings 2 = .ok (.iconst 0, 1) := by decide +kernel
theorem dX2_countRings_3 : decode cX2_countRings 3 = .ok (.istore_n 3, 1) := by decide +kernel
theorem dX2_countRings_4 : decode cX2_countRings 4 = .ok (.iconst 0, 1) := by decide +kernel
theorem dX2_countRings_5 : decode cX2_countRings 5 = .ok (.istore 4, 2) := by decide +kernel
theorem dX2_countRings_7 : decode cX2_countRings 7 = .ok (.iload 4, 2) := by decide +kernel
theorem dX2_countRings_9 : decode cX2_countRings 9 = .ok (.aload_n 0, 1) := by decide +kernel
theorem dX2_countRings_10 : decode cX2_countRings 10 = .ok (.getfield 28, 3) := by decide +kernel
theorem dX2_countRings_13 : decode cX2_countRings 13 = .ok (.if_icmp .ge 55, 3) := by decide +kernel
theorem dX2_countRings_16 : decode cX2_countRings 16 = .ok (.iload_n 1, 1) := by decide +kernel
theorem dX2_countRings_17 : decode cX2_countRings 17 = .ok (.iload 4, 2) := by decide +kernel
theorem dX2_countRings_19 : decode cX2_countRings 19 = .ok (.ishr, 1) := by decide +kernel
theorem dX2_countRings_20 : decode cX2_countRings 20 = .ok (.iconst 1, 1) := by decide +kernel
theorem dX2_countRings_21 : decode cX2_countRings 21 = .ok (.iand, 1) := by decide +kernel
theorem dX2_countRings_22 : decode cX2_countRings 22 = .ok (.iconst 1, 1) := by decide +kernel
theorem dX2_countRings_23 : decode cX2_countRings 23 = .ok (.if_icmp .ne 39, 3) := by decide +kernel
theorem dX2_countRings_26 : decode cX2_countRings 26 = .ok (.iload_n 1, 1) := by decide +kernel
theorem dX2_countRings_27 : decode cX2_countRings 27 = .ok (.iconst 1, 1) := by decide +kernel
theorem dX2_countRings_28 : decode cX2_countRings 28 = .ok (.iload 4, 2) := by decide +kernel
theorem dX2_countRings_30 : decode cX2_countRings 30 = .ok (.ishl, 1) := by decide +kernel
theorem dX2_countRings_31 : decode cX2_countRings 31 = .ok (.ixor, 1) := by decide +kernel
theorem dX2_countRings_32 : decode cX2_countRings 32 = .ok (.istore 5, 2) := by decide +kernel
theorem dX2_countRings_34 : decode cX2_countRings 34 = .ok (.iload_n 2, 1) := by decide +kernel
theorem dX2_countRings_35 : decode cX2_countRings 35 = .ok (.aload_n 0, 1) := by decide +kernel
theorem dX2_countRings_36 : decode cX2_countRings 36 = .ok (.getfield 21, 3) := by decide +kernel
theorem dX2_countRings_39 : decode cX2_countRings 39 = .ok (.iload 5, 2) := by decide +kernel
theorem dX2_countRings_41 : decode cX2_countRings 41 = .ok (.iaload, 1) := by decide +kernel
theorem dX2_countRings_42 : decode cX2_countRings 42 = .ok (.invokestatic 63, 3) := by decide +kernel
theorem dX2_countRings_45 : decode cX2_countRings 45 = .ok (.istore_n 2, 1) := by decide +kernel
theorem dX2_countRings_46 : decode cX2_countRings 46 = .ok (.aload_n 0, 1) := by decide +kernel
theorem dX2_countRings_47 : decode cX2_countRings 47 = .ok (.getfield 18, 3) := by decide +kernel
theorem dX2_countRings_50 : decode cX2_countRings 50 = .ok (.iload 5, 2) := by decide +kernel
theorem dX2_countRings_52 : decode cX2_countRings 52 = .ok (.iaload, 1) := by decide +kernel
theorem dX2_countRings_53 : decode cX2_countRings 53 = .ok (.aload_n 0, 1) := by decide +kernel
theorem dX2_countRings_54 : decode cX2_countRings 54 = .ok (.getfield 15, 3) := by decide +kernel
theorem dX2_countRings_57 : decode cX2_countRings 57 = .ok (.iload 4, 2) := by decide +kernel
theorem dX2_countRings_59 : decode cX2_countRings 59 = .ok (.iaload, 1) := by decide +kernel
theorem dX2_countRings_60 : decode cX2_countRings 60 = .ok (.iadd, 1) := by decide +kernel
theorem dX2_countRings_61 : decode cX2_countRings 61 = .ok (.istore_n 3, 1) := by decide +kernel
theorem dX2_countRings_62 : decode cX2_countRings 62 = .ok (.iinc 4 1, 3) := by decide +kernel
theorem dX2_countRings_65 : decode cX2_countRings 65 = .ok (.goto (-58), 3) := by decide +kernel
theorem dX2_countRings_68 : decode cX2_countRings 68 = .ok (.aload_n 0, 1) := by decide +kernel
theorem dX2_countRings_69 : decode cX2_countRings 69 = .ok (.getfield 18, 3) := by decide +kernel
theorem dX2_countRings_72 : decode cX2_countRings 72 = .ok (.iload_n 1, 1) := by decide +kernel
theorem dX2_countRings_73 : decode cX2_countRings 73 = .ok (.iload_n 3, 1) := by decide +kernel
theorem dX2_countRings_74 : decode cX2_countRings 74 = .ok (.iastore, 1) := by decide +kernel
theorem dX2_countRings_75 : decode cX2_countRings 75 = .ok (.aload_n 0, 1) := by decide +kernel
theorem dX2_countRings_76 : decode cX2_countRings 76 = .ok (.getfield 21, 3) := by decide +kernel
theorem dX2_countRings_79 : decode cX2_countRings 79 = .ok (.iload_n 1, 1) := by decide +kernel
theorem dX2_countRings_80 : decode cX2_countRings 80 = .ok (.iload_n 3, 1) := by decide +kernel
theorem dX2_countRings_81 : decode cX2_countRings 81 = .ok (.ifCond .ne 9, 3) := by decide +kernel
theorem dX2_countRings_84 : decode cX2_countRings 84 = .ok (.iload_n 2, 1) := by decide +kernel
theorem dX2_countRings_85 : decode cX2_countRings 85 = .ok (.iconst 1, 1) := by decide +kernel
theorem dX2_countRings_86 : decode cX2_countRings 86 = .ok (.iadd, 1) := by decide +kernel
theorem dX2_countRings_87 : decode cX2_countRings 87 = .ok (.goto 4, 3) := by decide +kernel
theorem dX2_countRings_90 : decode cX2_countRings 90 = .ok (.iload_n 2, 1) := by decide +kernel
theorem dX2_countRings_91 : decode cX2_countRings 91 = .ok (.iastore, 1) := by decide +kernel
theorem dX2_countRings_92 : decode cX2_countRings 92 = .ok (.return_, 1) := by decide +kernel
theorem dX3_init_0 : decode cX3_init 0 = .ok (.aload_n 0, 1) := by decide +kernel
theorem dX3_init_1 : decode cX3_init 1 = .ok (.invokespecial 3, 3) := by decide +kernel
theorem dX3_init_4 : decode cX3_init 4 = .ok (.aload_n 0, 1) := by decide +kernel
theorem dX3_init_5 : decode cX3_init 5 = .ok (.bipush 16, 2) := by decide +kernel
theorem dX3_init_7 : decode cX3_init 7 = .ok (.anewarray 9, 3) := by decide +kernel
theorem dX3_init_10 : decode cX3_init 10 = .ok (.putfield 11, 3) := by decide +kernel
theorem dX3_init_13 : decode cX3_init 13 = .ok (.iconst 0, 1) := by decide +kernel
theorem dX3_init_14 : decode cX3_init 14 = .ok (.istore_n 1, 1) := by decide +kernel
theorem dX3_init_15 : decode cX3_init 15 = .ok (.iload_n 1, 1) := by decide +kernel
theorem dX3_init_16 : decode cX3_init 16 = .ok (.bipush 16, 2) := by decide +kernel
theorem dX3_init_18 : decode cX3_init 18 = .ok (.if_icmp .ge 22, 3) := by decide +kernel
theorem dX3_init_21 : decode cX3_init 21 = .ok (.aload_n 0, 1) := by decide +kernel
theorem dX3_init_22 : decode cX3_init 22 = .ok (.getfield 11, 3) := by decide +kernel
theorem dX3_init_25 : decode cX3_init 25 = .ok (.iload_n 1, 1) := by decide +kernel
theorem dX3_init_26 : decode cX3_init 26 = .ok (.new 9, 3) := by decide +kernel
theorem dX3_init_29 : decode cX3_init 29 = .ok (.dup, 1) := by decide +kernel
theorem dX3_init_30 : decode cX3_init 30 = .ok (.invokespecial 17, 3) := by decide +kernel
theorem dX3_init_33 : decode cX3_init 33 = .ok (.aastore, 1) := by decide +kernel
theorem dX3_init_34 : decode cX3_init 34 = .ok (.iinc 1 1, 3) := by decide +kernel
theorem dX3_init_37 : decode cX3_init 37 = .ok (.goto (-22), 3) := by decide +kernel
theorem dX3_init_40 : decode cX3_init 40 = .ok (.return_, 1) := by decide +kernel
theorem dX3_forget_0 : decode cX3_forget 0 = .ok (.aload_n 0, 1) := by decide +kernel
theorem dX3_forget_1 : decode cX3_forget 1 = .ok (.iconst 0, 1) := by decide +kernel
theorem dX3_forget_2 : decode cX3_forget 2 = .ok (.putfield 18, 3) := by decide +kernel
theorem dX3_forget_5 : decode cX3_forget 5 = .ok (.return_, 1) := by decide +kernel
theorem dX3_remember_0 : decode cX3_remember 0 = .ok (.aload_n 0, 1) := by decide +kernel
theorem dX3_remember_1 : decode cX3_remember 1 = .ok (.getfield 11, 3) := by decide +kernel
theorem dX3_remember_4 : decode cX3_remember 4 = .ok (.aload_n 0, 1) := by decide +kernel
theorem dX3_remember_5 : decode cX3_remember 5 = .ok (.getfield 22, 3) := by decide +kernel
theorem dX3_remember_8 : decode cX3_remember 8 = .ok (.aaload, 1) := by decide +kernel
theorem dX3_remember_9 : decode cX3_remember 9 = .ok (.aload_n 1, 1) := by decide +kernel
theorem dX3_remember_10 : decode cX3_remember 10 = .ok (.invokevirtual 25, 3) := by decide +kernel
theorem dX3_remember_13 : decode cX3_remember 13 = .ok (.aload_n 0, 1) := by decide +kernel
theorem dX3_remember_14 : decode cX3_remember 14 = .ok (.aload_n 0, 1) := by decide +kernel
theorem dX3_remember_15 : decode cX3_remember 15 = .ok (.getfield 22, 3) := by decide +kernel
theorem dX3_remember_18 : decode cX3_remember 18 = .ok (.iconst 1, 1) := by decide +kernel
theorem dX3_remember_19 : decode cX3_remember 19 = .ok (.iadd, 1) := by decide +kernel
theorem dX3_remember_20 : decode cX3_remember 20 = .ok (.bipush 16, 2) := by decide +kernel
theorem dX3_remember_22 : decode cX3_remember 22 = .ok (.irem, 1) := by decide +kernel
theorem dX3_remember_23 : decode cX3_remember 23 = .ok (.putfield 22, 3) := by decide +kernel
theorem dX3_remember_26 : decode cX3_remember 26 = .ok (.aload_n 0, 1) := by decide +kernel
theorem dX3_remember_27 : decode cX3_remember 27 = .ok (.aload_n 0, 1) := by decide +kernel
theorem dX3_remember_28 : decode cX3_remember 28 = .ok (.getfield 18, 3) := by decide +kernel
theorem dX3_remember_31 : decode cX3_remember 31 = .ok (.iconst 1, 1) := by decide +kernel
theorem dX3_remember_32 : decode cX3_remember 32 = .ok (.iadd, 1) := by decide +kernel
theorem dX3_remember_33 : decode cX3_remember 33 = .ok (.bipush 16, 2) := by decide +kernel
theorem dX3_remember_35 : decode cX3_remember 35 = .ok (.invokestatic 29, 3) := by decide +kernel
theorem dX3_remember_38 : decode cX3_remember 38 = .ok (.putfield 18, 3) := by decide +kernel
theorem dX3_remember_41 : decode cX3_remember 41 = .ok (.return_, 1) := by decide +kernel
theorem dX3_recall_0 : decode cX3_recall 0 = .ok (.aload_n 0, 1) := by decide +kernel
theorem dX3_recall_1 : decode cX3_recall 1 = .ok (.aload_n 0, 1) := by decide +kernel
theorem dX3_recall_2 : decode cX3_recall 2 = .ok (.getfield 22, 3) := by decide +kernel
theorem dX3_recall_5 : decode cX3_recall 5 = .ok (.bipush 16, 2) := by decide +kernel
theorem dX3_recall_7 : decode cX3_recall 7 = .ok (.iadd, 1) := by decide +kernel
theorem dX3_recall_8 : decode cX3_recall 8 = .ok (.iconst 1, 1) := by decide +kernel
theorem dX3_recall_9 : decode cX3_recall 9 = .ok (.isub, 1) := by decide +kernel
theorem dX3_recall_10 : decode cX3_recall 10 = .ok (.bipush 16, 2) := by decide +kernel
theorem dX3_recall_12 : decode cX3_recall 12 = .ok (.irem, 1) := by decide +kernel
theorem dX3_recall_13 : decode cX3_recall 13 = .ok (.putfield 22, 3) := by decide +kernel
theorem dX3_recall_16 : decode cX3_recall 16 = .ok (.aload_n 1, 1) := by decide +kernel
theorem dX3_recall_17 : decode cX3_recall 17 = .ok (.aload_n 0, 1) := by decide +kernel
theorem dX3_recall_18 : decode cX3_recall 18 = .ok (.getfield 11, 3) := by decide +kernel
theorem dX3_recall_21 : decode cX3_recall 21 = .ok (.aload_n 0, 1) := by decide +kernel
theorem dX3_recall_22 : decode cX3_recall 22 = .ok (.getfield 22, 3) := by decide +kernel
theorem dX3_recall_25 : decode cX3_recall 25 = .ok (.aaload, 1) := by decide +kernel
theorem dX3_recall_26 : decode cX3_recall 26 = .ok (.invokevirtual 25, 3) := by decide +kernel
theorem dX3_recall_29 : decode cX3_recall 29 = .ok (.aload_n 0, 1) := by decide +kernel
theorem dX3_recall_30 : decode cX3_recall 30 = .ok (.aload_n 0, 1) := by decide +kernel
theorem dX3_recall_31 : decode cX3_recall 31 = .ok (.getfield 18, 3) := by decide +kernel
theorem dX3_recall_34 : decode cX3_recall 34 = .ok (.iconst 1, 1) := by decide +kernel
theorem dX3_recall_35 : decode cX3_recall 35 = .ok (.isub, 1) := by decide +kernel
theorem dX3_recall_36 : decode cX3_recall 36 = .ok (.iconst 0, 1) := by decide +kernel
theorem dX3_recall_37 : decode cX3_recall 37 = .ok (.invokestatic 35, 3) := by decide +kernel
theorem dX3_recall_40 : decode cX3_recall 40 = .ok (.putfield 18, 3) := by decide +kernel
theorem dX3_recall_43 : decode cX3_recall 43 = .ok (.return_, 1) := by decide +kernel
theorem dX4_init_0 : decode cX4_init 0 = .ok (.aload_n 0, 1) := by decide +kernel
theorem dX4_init_1 : decode cX4_init 1 = .ok (.invokespecial 3, 3) := by decide +kernel
theorem dX4_init_4 : decode cX4_init 4 = .ok (.aload_n 0, 1) := by decide +kernel
theorem dX4_init_5 : decode cX4_init 5 = .ok (.bipush 7, 2) := by decide +kernel
theorem dX4_init_7 : decode cX4_init 7 = .ok (.newarray .int, 2) := by decide +kernel
theorem dX4_init_9 : decode cX4_init 9 = .ok (.putfield 9, 3) := by decide +kernel
theorem dX4_init_12 : decode cX4_init 12 = .ok (.aload_n 0, 1) := by decide +kernel
theorem dX4_init_13 : decode cX4_init 13 = .ok (.bipush 8, 2) := by decide +kernel
theorem dX4_init_15 : decode cX4_init 15 = .ok (.newarray .int, 2) := by decide +kernel
theorem dX4_init_17 : decode cX4_init 17 = .ok (.putfield 15, 3) := by decide +kernel
theorem dX4_init_20 : decode cX4_init 20 = .ok (.aload_n 0, 1) := by decide +kernel
theorem dX4_init_21 : decode cX4_init 21 = .ok (.bipush 8, 2) := by decide +kernel
theorem dX4_init_23 : decode cX4_init 23 = .ok (.newarray .int, 2) := by decide +kernel
theorem dX4_init_25 : decode cX4_init 25 = .ok (.putfield 18, 3) := by decide +kernel
theorem dX4_init_28 : decode cX4_init 28 = .ok (.aload_n 0, 1) := by decide +kernel
theorem dX4_init_29 : decode cX4_init 29 = .ok (.bipush 8, 2) := by decide +kernel
theorem dX4_init_31 : decode cX4_init 31 = .ok (.newarray .int, 2) := by decide +kernel
theorem dX4_init_33 : decode cX4_init 33 = .ok (.putfield 21, 3) := by decide +kernel
theorem dX4_init_36 : decode cX4_init 36 = .ok (.aload_n 0, 1) := by decide +kernel
theorem dX4_init_37 : decode cX4_init 37 = .ok (.sipush 128, 3) := by decide +kernel
theorem dX4_init_40 : decode cX4_init 40 = .ok (.newarray .int, 2) := by decide +kernel
theorem dX4_init_42 : decode cX4_init 42 = .ok (.putfield 24, 3) := by decide +kernel
theorem dX4_init_45 : decode cX4_init 45 = .ok (.return_, 1) := by decide +kernel
theorem dX4_clear_0 : decode cX4_clear 0 = .ok (.aload_n 0, 1) := by decide +kernel
theorem dX4_clear_1 : decode cX4_clear 1 = .ok (.iconst 0, 1) := by decide +kernel
theorem dX4_clear_2 : decode cX4_clear 2 = .ok (.putfield 27, 3) := by decide +kernel
theorem dX4_clear_5 : decode cX4_clear 5 = .ok (.aload_n 0, 1) := by decide +kernel
theorem dX4_clear_6 : decode cX4_clear 6 = .ok (.iconst 0, 1) := by decide +kernel
theorem dX4_clear_7 : decode cX4_clear 7 = .ok (.putfield 31, 3) := by decide +kernel
theorem dX4_clear_10 : decode cX4_clear 10 = .ok (.aload_n 0, 1) := by decide +kernel
theorem dX4_clear_11 : decode cX4_clear 11 = .ok (.iconst 0, 1) := by decide +kernel
theorem dX4_clear_12 : decode cX4_clear 12 = .ok (.putfield 34, 3) := by decide +kernel
theorem dX4_clear_15 : decode cX4_clear 15 = .ok (.aload_n 0, 1) := by decide +kernel
theorem dX4_clear_16 : decode cX4_clear 16 = .ok (.iconst 0, 1) := by decide +kernel
theorem dX4_clear_17 : decode cX4_clear 17 = .ok (.putfield 37, 3) := by decide +kernel
theorem dX4_clear_20 : decode cX4_clear 20 = .ok (.aload_n 0, 1) := by decide +kernel
theorem dX4_clear_21 : decode cX4_clear 21 = .ok (.iconst 0, 1) := by decide +kernel
theorem dX4_clear_22 : decode cX4_clear 22 = .ok (.putfield 40, 3) := by decide +kernel
theorem dX4_clear_25 : decode cX4_clear 25 = .ok (.aload_n 0, 1) := by decide +kernel
theorem dX4_clear_26 : decode cX4_clear 26 = .ok (.iconst 0, 1) := by decide +kernel
theorem dX4_clear_27 : decode cX4_clear 27 = .ok (.putfield 44, 3) := by decide +kernel
theorem dX4_clear_30 : decode cX4_clear 30 = .ok (.return_, 1) := by decide +kernel
theorem dX4_hasCourt_0 : decode cX4_hasCourt 0 = .ok (.iload_n 1, 1) := by decide +kernel
theorem dX4_hasCourt_1 : decode cX4_hasCourt 1 = .ok (.ifCond .lt 15, 3) := by decide +kernel
theorem dX4_hasCourt_4 : decode cX4_hasCourt 4 = .ok (.iload_n 1, 1) := by decide +kernel
theorem dX4_hasCourt_5 : decode cX4_hasCourt 5 = .ok (.aload_n 0, 1) := by decide +kernel
theorem dX4_hasCourt_6 : decode cX4_hasCourt 6 = .ok (.getfield 27, 3) := by decide +kernel
theorem dX4_hasCourt_9 : decode cX4_hasCourt 9 = .ok (.if_icmp .ge 7, 3) := by decide +kernel
theorem dX4_hasCourt_12 : decode cX4_hasCourt 12 = .ok (.iconst 1, 1) := by decide +kernel
theorem dX4_hasCourt_13 : decode cX4_hasCourt 13 = .ok (.goto 4, 3) := by decide +kernel
theorem dX4_hasCourt_16 : decode cX4_hasCourt 16 = .ok (.iconst 0, 1) := by decide +kernel
theorem dX4_hasCourt_17 : decode cX4_hasCourt 17 = .ok (.ireturn, 1) := by decide +kernel
theorem dX4_hasDoll_0 : decode cX4_hasDoll 0 = .ok (.iload_n 1, 1) := by decide +kernel
theorem dX4_hasDoll_1 : decode cX4_hasDoll 1 = .ok (.ifCond .lt 15, 3) := by decide +kernel
theorem dX4_hasDoll_4 : decode cX4_hasDoll 4 = .ok (.iload_n 1, 1) := by decide +kernel
theorem dX4_hasDoll_5 : decode cX4_hasDoll 5 = .ok (.aload_n 0, 1) := by decide +kernel
theorem dX4_hasDoll_6 : decode cX4_hasDoll 6 = .ok (.getfield 31, 3) := by decide +kernel
theorem dX4_hasDoll_9 : decode cX4_hasDoll 9 = .ok (.if_icmp .ge 7, 3) := by decide +kernel
theorem dX4_hasDoll_12 : decode cX4_hasDoll 12 = .ok (.iconst 1, 1) := by decide +kernel
theorem dX4_hasDoll_13 : decode cX4_hasDoll 13 = .ok (.goto 4, 3) := by decide +kernel
theorem dX4_hasDoll_16 : decode cX4_hasDoll 16 = .ok (.iconst 0, 1) := by decide +kernel
theorem dX4_hasDoll_17 : decode cX4_hasDoll 17 = .ok (.ireturn, 1) := by decide +kernel
theorem dX4_allCourts_0 : decode cX4_allCourts 0 = .ok (.iconst 1, 1) := by decide +kernel
theorem dX4_allCourts_1 : decode cX4_allCourts 1 = .ok (.aload_n 0, 1) := by decide +kernel
theorem dX4_allCourts_2 : decode cX4_allCourts 2 = .ok (.getfield 27, 3) := by decide +kernel
theorem dX4_allCourts_5 : decode cX4_allCourts 5 = .ok (.ishl, 1) := by decide +kernel
theorem dX4_allCourts_6 : decode cX4_allCourts 6 = .ok (.iconst 1, 1) := by decide +kernel
theorem dX4_allCourts_7 : decode cX4_allCourts 7 = .ok (.isub, 1) := by decide +kernel
theorem dX4_allCourts_8 : decode cX4_allCourts 8 = .ok (.ireturn, 1) := by decide +kernel
theorem dX4_addCourt_0 : decode cX4_addCourt 0 = .ok (.aload_n 0, 1) := by decide +kernel
theorem dX4_addCourt_1 : decode cX4_addCourt 1 = .ok (.getfield 27, 3) := by decide +kernel
theorem dX4_addCourt_4 : decode cX4_addCourt 4 = .ok (.bipush 7, 2) := by decide +kernel
theorem dX4_addCourt_6 : decode cX4_addCourt 6 = .ok (.if_icmp .ge 23, 3) := by decide +kernel
theorem dX4_addCourt_9 : decode cX4_addCourt 9 = .ok (.aload_n 0, 1) := by decide +kernel
theorem dX4_addCourt_10 : decode cX4_addCourt 10 = .ok (.getfield 9, 3) := by decide +kernel
theorem dX4_addCourt_13 : decode cX4_addCourt 13 = .ok (.aload_n 0, 1) := by decide +kernel
theorem dX4_addCourt_14 : decode cX4_addCourt 14 = .ok (.getfield 27, 3) := by decide +kernel
theorem dX4_addCourt_17 : decode cX4_addCourt 17 = .ok (.iload_n 1, 1) := by decide +kernel
theorem dX4_addCourt_18 : decode cX4_addCourt 18 = .ok (.iastore, 1) := by decide +kernel
theorem dX4_addCourt_19 : decode cX4_addCourt 19 = .ok (.aload_n 0, 1) := by decide +kernel
theorem dX4_addCourt_20 : decode cX4_addCourt 20 = .ok (.dup, 1) := by decide +kernel
theorem dX4_addCourt_21 : decode cX4_addCourt 21 = .ok (.getfield 27, 3) := by decide +kernel
theorem dX4_addCourt_24 : decode cX4_addCourt 24 = .ok (.iconst 1, 1) := by decide +kernel
theorem dX4_addCourt_25 : decode cX4_addCourt 25 = .ok (.iadd, 1) := by decide +kernel
theorem dX4_addCourt_26 : decode cX4_addCourt 26 = .ok (.putfield 27, 3) := by decide +kernel
theorem dX4_addCourt_29 : decode cX4_addCourt 29 = .ok (.return_, 1) := by decide +kernel
theorem dX4_addDoll_0 : decode cX4_addDoll 0 = .ok (.aload_n 0, 1) := by decide +kernel
theorem dX4_addDoll_1 : decode cX4_addDoll 1 = .ok (.getfield 31, 3) := by decide +kernel
theorem dX4_addDoll_4 : decode cX4_addDoll 4 = .ok (.bipush 8, 2) := by decide +kernel
theorem dX4_addDoll_6 : decode cX4_addDoll 6 = .ok (.if_icmp .ge 43, 3) := by decide +kernel
theorem dX4_addDoll_9 : decode cX4_addDoll 9 = .ok (.aload_n 0, 1) := by decide +kernel
theorem dX4_addDoll_10 : decode cX4_addDoll 10 = .ok (.getfield 15, 3) := by decide +kernel
theorem dX4_addDoll_13 : decode cX4_addDoll 13 = .ok (.aload_n 0, 1) := by decide +kernel
theorem dX4_addDoll_14 : decode cX4_addDoll 14 = .ok (.getfield 31, 3) := by decide +kernel
theorem dX4_addDoll_17 : decode cX4_addDoll 17 = .ok (.iload_n 1, 1) := by decide +kernel
theorem dX4_addDoll_18 : decode cX4_addDoll 18 = .ok (.iastore, 1) := by decide +kernel
theorem dX4_addDoll_19 : decode cX4_addDoll 19 = .ok (.aload_n 0, 1) := by decide +kernel
theorem dX4_addDoll_20 : decode cX4_addDoll 20 = .ok (.getfield 18, 3) := by decide +kernel
theorem dX4_addDoll_23 : decode cX4_addDoll 23 = .ok (.aload_n 0, 1) := by decide +kernel
theorem dX4_addDoll_24 : decode cX4_addDoll 24 = .ok (.getfield 31, 3) := by decide +kernel
theorem dX4_addDoll_27 : decode cX4_addDoll 27 = .ok (.iload_n 2, 1) := by decide +kernel
theorem dX4_addDoll_28 : decode cX4_addDoll 28 = .ok (.iastore, 1) := by decide +kernel
theorem dX4_addDoll_29 : decode cX4_addDoll 29 = .ok (.aload_n 0, 1) := by decide +kernel
theorem dX4_addDoll_30 : decode cX4_addDoll 30 = .ok (.getfield 21, 3) := by decide +kernel
theorem dX4_addDoll_33 : decode cX4_addDoll 33 = .ok (.aload_n 0, 1) := by decide +kernel
theorem dX4_addDoll_34 : decode cX4_addDoll 34 = .ok (.getfield 31, 3) := by decide +kernel
theorem dX4_addDoll_37 : decode cX4_addDoll 37 = .ok (.iload_n 3, 1) := by decide +kernel
theorem dX4_addDoll_38 : decode cX4_addDoll 38 = .ok (.iastore, 1) := by decide +kernel
theorem dX4_addDoll_39 : decode cX4_addDoll 39 = .ok (.aload_n 0, 1) := by decide +kernel
theorem dX4_addDoll_40 : decode cX4_addDoll 40 = .ok (.dup, 1) := by decide +kernel
theorem dX4_addDoll_41 : decode cX4_addDoll 41 = .ok (.getfield 31, 3) := by decide +kernel
theorem dX4_addDoll_44 : decode cX4_addDoll 44 = .ok (.iconst 1, 1) := by decide +kernel
theorem dX4_addDoll_45 : decode cX4_addDoll 45 = .ok (.iadd, 1) := by decide +kernel
theorem dX4_addDoll_46 : decode cX4_addDoll 46 = .ok (.putfield 31, 3) := by decide +kernel
theorem dX4_addDoll_49 : decode cX4_addDoll 49 = .ok (.return_, 1) := by decide +kernel
theorem dX4_settle_0 : decode cX4_settle 0 = .ok (.aload_n 0, 1) := by decide +kernel
theorem dX4_settle_1 : decode cX4_settle 1 = .ok (.getfield 24, 3) := by decide +kernel
theorem dX4_settle_4 : decode cX4_settle 4 = .ok (.iconst 0, 1) := by decide +kernel
theorem dX4_settle_5 : decode cX4_settle 5 = .ok (.iconst 0, 1) := by decide +kernel
theorem dX4_settle_6 : decode cX4_settle 6 = .ok (.iastore, 1) := by decide +kernel
theorem dX4_settle_7 : decode cX4_settle 7 = .ok (.iconst 0, 1) := by decide +kernel
theorem dX4_settle_8 : decode cX4_settle 8 = .ok (.istore_n 1, 1) := by decide +kernel
theorem dX4_settle_9 : decode cX4_settle 9 = .ok (.iload_n 1, 1) := by decide +kernel
theorem dX4_settle_10 : decode cX4_settle 10 = .ok (.aload_n 0, 1) := by decide +kernel
theorem dX4_settle_11 : decode cX4_settle 11 = .ok (.getfield 27, 3) := by decide +kernel
theorem dX4_settle_14 : decode cX4_settle 14 = .ok (.if_icmp .ge 47, 3) := by decide +kernel
theorem dX4_settle_17 : decode cX4_settle 17 = .ok (.iconst 1, 1) := by decide +kernel
theorem dX4_settle_18 : decode cX4_settle 18 = .ok (.iload_n 1, 1) := by decide +kernel
theorem dX4_settle_19 : decode cX4_settle 19 = .ok (.ishl, 1) := by decide +kernel
theorem dX4_settle_20 : decode cX4_settle 20 = .ok (.istore_n 2, 1) := by decide +kernel
theorem dX4_settle_21 : decode cX4_settle 21 = .ok (.iconst 0, 1) := by decide +kernel
theorem dX4_settle_22 : decode cX4_settle 22 = .ok (.istore_n 3, 1) := by decide +kernel
theorem dX4_settle_23 : decode cX4_settle 23 = .ok (.iload_n 3, 1) := by decide +kernel
theorem dX4_settle_24 : decode cX4_settle 24 = .ok (.iload_n 2, 1) := by decide +kernel
theorem dX4_settle_25 : decode cX4_settle 25 = .ok (.if_icmp .ge 30, 3) := by decide +kernel
theorem dX4_settle_28 : decode cX4_settle 28 = .ok (.aload_n 0, 1) := by decide +kernel
theorem dX4_settle_29 : decode cX4_settle 29 = .ok (.getfield 24, 3) := by decide +kernel
theorem dX4_settle_32 : decode cX4_settle 32 = .ok (.iload_n 3, 1) := by decide +kernel
theorem dX4_settle_33 : decode cX4_settle 33 = .ok (.iload_n 2, 1) := by decide +kernel
theorem dX4_settle_34 : decode cX4_settle 34 = .ok (.ior, 1) := by decide +kernel
theorem dX4_settle_35 : decode cX4_settle 35 = .ok (.aload_n 0, 1) := by decide +kernel
theorem dX4_settle_36 : decode cX4_settle 36 = .ok (.getfield 24, 3) := by decide +kernel
theorem dX4_settle_39 : decode cX4_settle 39 = .ok (.iload_n 3, 1) := by decide +kernel
theorem dX4_settle_40 : decode cX4_settle 40 = .ok (.iaload, 1) := by decide +kernel
theorem dX4_settle_41 : decode cX4_settle 41 = .ok (.aload_n 0, 1) := by decide +kernel
theorem dX4_settle_42 : decode cX4_settle 42 = .ok (.getfield 9, 3) := by decide +kernel
theorem dX4_settle_45 : decode cX4_settle 45 = .ok (.iload_n 1, 1) := by decide +kernel
theorem dX4_settle_46 : decode cX4_settle 46 = .ok (.iaload, 1) := by decide +kernel
theorem dX4_settle_47 : decode cX4_settle 47 = .ok (.iadd, 1) := by decide +kernel
theorem dX4_settle_48 : decode cX4_settle 48 = .ok (.iastore, 1) := by decide +kernel
theorem dX4_settle_49 : decode cX4_settle 49 = .ok (.iinc 3 1, 3) := by decide +kernel
theorem dX4_settle_52 : decode cX4_settle 52 = .ok (.goto (-29), 3) := by decide +kernel
theorem dX4_settle_55 : decode cX4_settle 55 = .ok (.iinc 1 1, 3) := by decide +kernel
theorem dX4_settle_58 : decode cX4_settle 58 = .ok (.goto (-49), 3) := by decide +kernel
theorem dX4_settle_61 : decode cX4_settle 61 = .ok (.aload_n 0, 1) := by decide +kernel
theorem dX4_settle_62 : decode cX4_settle 62 = .ok (.getfield 27, 3) := by decide +kernel
theorem dX4_settle_65 : decode cX4_settle 65 = .ok (.ifCond .le 27, 3) := by decide +kernel
theorem dX4_settle_68 : decode cX4_settle 68 = .ok (.aload_n 0, 1) := by decide +kernel
theorem dX4_settle_69 : decode cX4_settle 69 = .ok (.getfield 44, 3) := by decide +kernel
theorem dX4_settle_72 : decode cX4_settle 72 = .ok (.ifCond .ne 20, 3) := by decide +kernel
theorem dX4_settle_75 : decode cX4_settle 75 = .ok (.aload_n 0, 1) := by decide +kernel
theorem dX4_settle_76 : decode cX4_settle 76 = .ok (.aload_n 0, 1) := by decide +kernel
theorem dX4_settle_77 : decode cX4_settle 77 = .ok (.getfield 24, 3) := by decide +kernel
theorem dX4_settle_80 : decode cX4_settle 80 = .ok (.aload_n 0, 1) := by decide +kernel
theorem dX4_settle_81 : decode cX4_settle 81 = .ok (.invokevirtual 47, 3) := by decide +kernel
theorem dX4_settle_84 : decode cX4_settle 84 = .ok (.iaload, 1) := by decide +kernel
theorem dX4_settle_85 : decode cX4_settle 85 = .ok (.iconst 2, 1) := by decide +kernel
theorem dX4_settle_86 : decode cX4_settle 86 = .ok (.idiv, 1) := by decide +kernel
theorem dX4_settle_87 : decode cX4_settle 87 = .ok (.iconst 1, 1) := by decide +kernel
theorem dX4_settle_88 : decode cX4_settle 88 = .ok (.iadd, 1) := by decide +kernel
theorem dX4_settle_89 : decode cX4_settle 89 = .ok (.putfield 37, 3) := by decide +kernel
theorem dX4_settle_92 : decode cX4_settle 92 = .ok (.return_, 1) := by decide +kernel
theorem dX4_powerOf_0 : decode cX4_powerOf 0 = .ok (.iconst 0, 1) := by decide +kernel
theorem dX4_powerOf_1 : decode cX4_powerOf 1 = .ok (.istore_n 2, 1) := by decide +kernel
theorem dX4_powerOf_2 : decode cX4_powerOf 2 = .ok (.iconst 0, 1) := by decide +kernel
theorem dX4_powerOf_3 : decode cX4_powerOf 3 = .ok (.istore_n 3, 1) := by decide +kernel
theorem dX4_powerOf_4 : decode cX4_powerOf 4 = .ok (.iload_n 3, 1) := by decide +kernel
theorem dX4_powerOf_5 : decode cX4_powerOf 5 = .ok (.aload_n 0, 1) := by decide +kernel
theorem dX4_powerOf_6 : decode cX4_powerOf 6 = .ok (.invokevirtual 47, 3) := by decide +kernel
theorem dX4_powerOf_9 : decode cX4_powerOf 9 = .ok (.if_icmp .gt 91, 3) := by decide +kernel
theorem dX4_powerOf_12 : decode cX4_powerOf 12 = .ok (.aload_n 0, 1) := by decide +kernel
theorem dX4_powerOf_13 : decode cX4_powerOf 13 = .ok (.getfield 24, 3) := by decide +kernel
theorem dX4_powerOf_16 : decode cX4_powerOf 16 = .ok (.iload_n 3, 1) := by decide +kernel
theorem dX4_powerOf_17 : decode cX4_powerOf 17 = .ok (.iaload, 1) := by decide +kernel
theorem dX4_powerOf_18 : decode cX4_powerOf 18 = .ok (.aload_n 0, 1) := by decide +kernel
theorem dX4_powerOf_19 : decode cX4_powerOf 19 = .ok (.getfield 37, 3) := by decide +kernel
theorem dX4_powerOf_22 : decode cX4_powerOf 22 = .ok (.if_icmp .ge 27, 3) := by decide +kernel
theorem dX4_powerOf_25 : decode cX4_powerOf 25 = .ok (.aload_n 0, 1) := by decide +kernel
theorem dX4_powerOf_26 : decode cX4_powerOf 26 = .ok (.getfield 24, 3) := by decide +kernel
theorem dX4_powerOf_29 : decode cX4_powerOf 29 = .ok (.iload_n 3, 1) := by decide +kernel
theorem dX4_powerOf_30 : decode cX4_powerOf 30 = .ok (.iaload, 1) := by decide +kernel
theorem dX4_powerOf_31 : decode cX4_powerOf 31 = .ok (.aload_n 0, 1) := by decide +kernel
theorem dX4_powerOf_32 : decode cX4_powerOf 32 = .ok (.getfield 9, 3) := by decide +kernel
theorem dX4_powerOf_35 : decode cX4_powerOf 35 = .ok (.iload_n 1, 1) := by decide +kernel
theorem dX4_powerOf_36 : decode cX4_powerOf 36 = .ok (.iaload, 1) := by decide +kernel
theorem dX4_powerOf_37 : decode cX4_powerOf 37 = .ok (.iadd, 1) := by decide +kernel
theorem dX4_powerOf_38 : decode cX4_powerOf 38 = .ok (.aload_n 0, 1) := by decide +kernel
theorem dX4_powerOf_39 : decode cX4_powerOf 39 = .ok (.getfield 37, 3) := by decide +kernel
theorem dX4_powerOf_42 : decode cX4_powerOf 42 = .ok (.if_icmp .lt 7, 3) := by decide +kernel
theorem dX4_powerOf_45 : decode cX4_powerOf 45 = .ok (.iconst 1, 1) := by decide +kernel
theorem dX4_powerOf_46 : decode cX4_powerOf 46 = .ok (.goto 4, 3) := by decide +kernel
theorem dX4_powerOf_49 : decode cX4_powerOf 49 = .ok (.iconst 0, 1) := by decide +kernel
theorem dX4_powerOf_50 : decode cX4_powerOf 50 = .ok (.istore 4, 2) := by decide +kernel
theorem dX4_powerOf_52 : decode cX4_powerOf 52 = .ok (.iload_n 3, 1) := by decide +kernel
theorem dX4_powerOf_53 : decode cX4_powerOf 53 = .ok (.iload_n 1, 1) := by decide +kernel
theorem dX4_powerOf_54 : decode cX4_powerOf 54 = .ok (.ishr, 1) := by decide +kernel
theorem dX4_powerOf_55 : decode cX4_powerOf 55 = .ok (.iconst 1, 1) := by decide +kernel
theorem dX4_powerOf_56 : decode cX4_powerOf 56 = .ok (.iand, 1) := by decide +kernel
theorem dX4_powerOf_57 : decode cX4_powerOf 57 = .ok (.ifCond .ne 37, 3) := by decide +kernel
theorem dX4_powerOf_60 : decode cX4_powerOf 60 = .ok (.iload 4, 2) := by decide +kernel
theorem dX4_powerOf_62 : decode cX4_powerOf 62 = .ok (.ifCond .eq 32, 3) := by decide +kernel
theorem dX4_powerOf_65 : decode cX4_powerOf 65 = .ok (.iload_n 3, 1) := by decide +kernel
theorem dX4_powerOf_66 : decode cX4_powerOf 66 = .ok (.invokestatic 51, 3) := by decide +kernel
theorem dX4_powerOf_69 : decode cX4_powerOf 69 = .ok (.istore 5, 2) := by decide +kernel
theorem dX4_powerOf_71 : decode cX4_powerOf 71 = .ok (.iload_n 2, 1) := by decide +kernel
theorem dX4_powerOf_72 : decode cX4_powerOf 72 = .ok (.getstatic 57, 3) := by decide +kernel
theorem dX4_powerOf_75 : decode cX4_powerOf 75 = .ok (.iload 5, 2) := by decide +kernel
theorem dX4_powerOf_77 : decode cX4_powerOf 77 = .ok (.iaload, 1) := by decide +kernel
theorem dX4_powerOf_78 : decode cX4_powerOf 78 = .ok (.getstatic 57, 3) := by decide +kernel
theorem dX4_powerOf_81 : decode cX4_powerOf 81 = .ok (.aload_n 0, 1) := by decide +kernel
theorem dX4_powerOf_82 : decode cX4_powerOf 82 = .ok (.getfield 27, 3) := by decide +kernel
theorem dX4_powerOf_85 : decode cX4_powerOf 85 = .ok (.iconst 1, 1) := by decide +kernel
theorem dX4_powerOf_86 : decode cX4_powerOf 86 = .ok (.isub, 1) := by decide +kernel
theorem dX4_powerOf_87 : decode cX4_powerOf 87 = .ok (.iload 5, 2) := by decide +kernel
theorem dX4_powerOf_89 : decode cX4_powerOf 89 = .ok (.isub, 1) := by decide +kernel
theorem dX4_powerOf_90 : decode cX4_powerOf 90 = .ok (.iaload, 1) := by decide +kernel
theorem dX4_powerOf_91 : decode cX4_powerOf 91 = .ok (.imul, 1) := by decide +kernel
theorem dX4_powerOf_92 : decode cX4_powerOf 92 = .ok (.iadd, 1) := by decide +kernel
theorem dX4_powerOf_93 : decode cX4_powerOf 93 = .ok (.istore_n 2, 1) := by decide +kernel
theorem dX4_powerOf_94 : decode cX4_powerOf 94 = .ok (.iinc 3 1, 3) := by decide +kernel
theorem dX4_powerOf_97 : decode cX4_powerOf 97 = .ok (.goto (-93), 3) := by decide +kernel
theorem dX4_powerOf_100 : decode cX4_powerOf 100 = .ok (.iload_n 2, 1) := by decide +kernel
theorem dX4_powerOf_101 : decode cX4_powerOf 101 = .ok (.ireturn, 1) := by decide +kernel
theorem dX4_fewestBlocking_0 : decode cX4_fewestBlocking 0 = .ok (.aload_n 0, 1) := by decide +kernel
theorem dX4_fewestBlocking_1 : decode cX4_fewestBlocking 1 = .ok (.invokevirtual 47, 3) := by decide +kernel
theorem dX4_fewestBlocking_4 : decode cX4_fewestBlocking 4 = .ok (.istore_n 1, 1) := by decide +kernel
theorem dX4_fewestBlocking_5 : decode cX4_fewestBlocking 5 = .ok (.iload_n 1, 1) := by decide +kernel
theorem dX4_fewestBlocking_6 : decode cX4_fewestBlocking 6 = .ok (.istore_n 2, 1) := by decide +kernel
theorem dX4_fewestBlocking_7 : decode cX4_fewestBlocking 7 = .ok (.iconst 0, 1) := by decide +kernel
theorem dX4_fewestBlocking_8 : decode cX4_fewestBlocking 8 = .ok (.istore_n 3, 1) := by decide +kernel
theorem dX4_fewestBlocking_9 : decode cX4_fewestBlocking 9 = .ok (.iload_n 3, 1) := by decide +kernel
theorem dX4_fewestBlocking_10 : decode cX4_fewestBlocking 10 = .ok (.iload_n 1, 1) := by decide +kernel
theorem dX4_fewestBlocking_11 : decode cX4_fewestBlocking 11 = .ok (.if_icmp .gt 37, 3) := by decide +kernel
theorem dX4_fewestBlocking_14 : decode cX4_fewestBlocking 14 = .ok (.aload_n 0, 1) := by decide +kernel
theorem dX4_fewestBlocking_15 : decode cX4_fewestBlocking 15 = .ok (.getfield 24, 3) := by decide +kernel
theorem dX4_fewestBlocking_18 : decode cX4_fewestBlocking 18 = .ok (.iload_n 1, 1) := by decide +kernel
theorem dX4_fewestBlocking_19 : decode cX4_fewestBlocking 19 = .ok (.iload_n 3, 1) := by decide +kernel
theorem dX4_fewestBlocking_20 : decode cX4_fewestBlocking 20 = .ok (.ixor, 1) := by decide +kernel
theorem dX4_fewestBlocking_21 : decode cX4_fewestBlocking 21 = .ok (.iaload, 1) := by decide +kernel
theorem dX4_fewestBlocking_22 : decode cX4_fewestBlocking 22 = .ok (.aload_n 0, 1) := by decide +kernel
theorem dX4_fewestBlocking_23 : decode cX4_fewestBlocking 23 = .ok (.getfield 37, 3) := by decide +kernel
theorem dX4_fewestBlocking_26 : decode cX4_fewestBlocking 26 = .ok (.if_icmp .ge 16, 3) := by decide +kernel
theorem dX4_fewestBlocking_29 : decode cX4_fewestBlocking 29 = .ok (.iload_n 3, 1) := by decide +kernel
theorem dX4_fewestBlocking_30 : decode cX4_fewestBlocking 30 = .ok (.invokestatic 51, 3) := by decide +kernel
theorem dX4_fewestBlocking_33 : decode cX4_fewestBlocking 33 = .ok (.iload_n 2, 1) := by decide +kernel
theorem dX4_fewestBlocking_34 : decode cX4_fewestBlocking 34 = .ok (.invokestatic 51, 3) := by decide +kernel
theorem dX4_fewestBlocking_37 : decode cX4_fewestBlocking 37 = .ok (.if_icmp .ge 5, 3) := by decide +kernel
theorem dX4_fewestBlocking_40 : decode cX4_fewestBlocking 40 = .ok (.iload_n 3, 1) := by decide +kernel
theorem dX4_fewestBlocking_41 : decode cX4_fewestBlocking 41 = .ok (.istore_n 2, 1) := by decide +kernel
theorem dX4_fewestBlocking_42 : decode cX4_fewestBlocking 42 = .ok (.iinc 3 1, 3) := by decide +kernel
theorem dX4_fewestBlocking_45 : decode cX4_fewestBlocking 45 = .ok (.goto (-36), 3) := by decide +kernel
theorem dX4_fewestBlocking_48 : decode cX4_fewestBlocking 48 = .ok (.iload_n 2, 1) := by decide +kernel
theorem dX4_fewestBlocking_49 : decode cX4_fewestBlocking 49 = .ok (.ireturn, 1) := by decide +kernel
theorem dX4_fewestAgreeing_0 : decode cX4_fewestAgreeing 0 = .ok (.iconst (-1), 1) := by decide +kernel
theorem dX4_fewestAgreeing_1 : decode cX4_fewestAgreeing 1 = .ok (.istore_n 1, 1) := by decide +kernel
theorem dX4_fewestAgreeing_2 : decode cX4_fewestAgreeing 2 = .ok (.iconst 0, 1) := by decide +kernel
theorem dX4_fewestAgreeing_3 : decode cX4_fewestAgreeing 3 = .ok (.istore_n 2, 1) := by decide +kernel
theorem dX4_fewestAgreeing_4 : decode cX4_fewestAgreeing 4 = .ok (.iload_n 2, 1) := by decide +kernel
theorem dX4_fewestAgreeing_5 : decode cX4_fewestAgreeing 5 = .ok (.aload_n 0, 1) := by decide +kernel
theorem dX4_fewestAgreeing_6 : decode cX4_fewestAgreeing 6 = .ok (.invokevirtual 47, 3) := by decide +kernel
theorem dX4_fewestAgreeing_9 : decode cX4_fewestAgreeing 9 = .ok (.if_icmp .gt 40, 3) := by decide +kernel
theorem dX4_fewestAgreeing_12 : decode cX4_fewestAgreeing 12 = .ok (.aload_n 0, 1) := by decide +kernel
theorem dX4_fewestAgreeing_13 : decode cX4_fewestAgreeing 13 = .ok (.getfield 24, 3) := by decide +kernel
theorem dX4_fewestAgreeing_16 : decode cX4_fewestAgreeing 16 = .ok (.iload_n 2, 1) := by decide +kernel
theorem dX4_fewestAgreeing_17 : decode cX4_fewestAgreeing 17 = .ok (.iaload, 1) := by decide +kernel
theorem dX4_fewestAgreeing_18 : decode cX4_fewestAgreeing 18 = .ok (.aload_n 0, 1) := by decide +kernel
theorem dX4_fewestAgreeing_19 : decode cX4_fewestAgreeing 19 = .ok (.getfield 37, 3) := by decide +kernel
theorem dX4_fewestAgreeing_22 : decode cX4_fewestAgreeing 22 = .ok (.if_icmp .lt 21, 3) := by decide +kernel
theorem dX4_fewestAgreeing_25 : decode cX4_fewestAgreeing 25 = .ok (.iload_n 1, 1) := by decide +kernel
theorem dX4_fewestAgreeing_26 : decode cX4_fewestAgreeing 26 = .ok (.iconst (-1), 1) := by decide +kernel
theorem dX4_fewestAgreeing_27 : decode cX4_fewestAgreeing 27 = .ok (.if_icmp .eq 14, 3) := by decide +kernel
theorem dX4_fewestAgreeing_30 : decode cX4_fewestAgreeing 30 = .ok (.iload_n 2, 1) := by decide +kernel
theorem dX4_fewestAgreeing_31 : decode cX4_fewestAgreeing 31 = .ok (.invokestatic 51, 3) := by decide +kernel
theorem dX4_fewestAgreeing_34 : decode cX4_fewestAgreeing 34 = .ok (.iload_n 1, 1) := by decide +kernel
theorem dX4_fewestAgreeing_35 : decode cX4_fewestAgreeing 35 = .ok (.invokestatic 51, 3) := by decide +kernel
theorem dX4_fewestAgreeing_38 : decode cX4_fewestAgreeing 38 = .ok (.if_icmp .ge 5, 3) := by decide +kernel
theorem dX4_fewestAgreeing_41 : decode cX4_fewestAgreeing 41 = .ok (.iload_n 2, 1) := by decide +kernel
theorem dX4_fewestAgreeing_42 : decode cX4_fewestAgreeing 42 = .ok (.istore_n 1, 1) := by decide +kernel
theorem dX4_fewestAgreeing_43 : decode cX4_fewestAgreeing 43 = .ok (.iinc 2 1, 3) := by decide +kernel
theorem dX4_fewestAgreeing_46 : decode cX4_fewestAgreeing 46 = .ok (.goto (-42), 3) := by decide +kernel
theorem dX4_fewestAgreeing_49 : decode cX4_fewestAgreeing 49 = .ok (.iload_n 1, 1) := by decide +kernel
theorem dX4_fewestAgreeing_50 : decode cX4_fewestAgreeing 50 = .ok (.ireturn, 1) := by decide +kernel
theorem dX4_winnerFrom_0 : decode cX4_winnerFrom 0 = .ok (.iconst 3, 1) := by decide +kernel
theorem dX4_winnerFrom_1 : decode cX4_winnerFrom 1 = .ok (.iload_n 1, 1) := by decide +kernel
theorem dX4_winnerFrom_2 : decode cX4_winnerFrom 2 = .ok (.isub, 1) := by decide +kernel
theorem dX4_winnerFrom_3 : decode cX4_winnerFrom 3 = .ok (.iload_n 2, 1) := by decide +kernel
theorem dX4_winnerFrom_4 : decode cX4_winnerFrom 4 = .ok (.isub, 1) := by decide +kernel
theorem dX4_winnerFrom_5 : decode cX4_winnerFrom 5 = .ok (.istore_n 3, 1) := by decide +kernel
theorem dX4_winnerFrom_6 : decode cX4_winnerFrom 6 = .ok (.aload_n 0, 1) := by decide +kernel
theorem dX4_winnerFrom_7 : decode cX4_winnerFrom 7 = .ok (.aload_n 0, 1) := by decide +kernel
theorem dX4_winnerFrom_8 : decode cX4_winnerFrom 8 = .ok (.iload_n 1, 1) := by decide +kernel
theorem dX4_winnerFrom_9 : decode cX4_winnerFrom 9 = .ok (.iload_n 2, 1) := by decide +kernel
theorem dX4_winnerFrom_10 : decode cX4_winnerFrom 10 = .ok (.invokevirtual 60, 3) := by decide +kernel
theorem dX4_winnerFrom_13 : decode cX4_winnerFrom 13 = .ok (.iload_n 3, 1) := by decide +kernel
theorem dX4_winnerFrom_14 : decode cX4_winnerFrom 14 = .ok (.invokevirtual 60, 3) := by decide +kernel
theorem dX4_winnerFrom_17 : decode cX4_winnerFrom 17 = .ok (.ireturn, 1) := by decide +kernel
theorem dX4_winnerOf_0 : decode cX4_winnerOf 0 = .ok (.iload_n 1, 1) := by decide +kernel
theorem dX4_winnerOf_1 : decode cX4_winnerOf 1 = .ok (.iload_n 2, 1) := by decide +kernel
theorem dX4_winnerOf_2 : decode cX4_winnerOf 2 = .ok (.invokestatic 64, 3) := by decide +kernel
theorem dX4_winnerOf_5 : decode cX4_winnerOf 5 = .ok (.istore_n 3, 1) := by decide +kernel
theorem dX4_winnerOf_6 : decode cX4_winnerOf 6 = .ok (.iload_n 1, 1) := by decide +kernel
theorem dX4_winnerOf_7 : decode cX4_winnerOf 7 = .ok (.iload_n 2, 1) := by decide +kernel
theorem dX4_winnerOf_8 : decode cX4_winnerOf 8 = .ok (.invokestatic 69, 3) := by decide +kernel
theorem dX4_winnerOf_11 : decode cX4_winnerOf 11 = .ok (.istore 4, 2) := by decide +kernel
theorem dX4_winnerOf_13 : decode cX4_winnerOf 13 = .ok (.iconst 0, 1) := by decide +kernel
theorem dX4_winnerOf_14 : decode cX4_winnerOf 14 = .ok (.istore 5, 2) := by decide +kernel
theorem dX4_winnerOf_16 : decode cX4_winnerOf 16 = .ok (.iconst 0, 1) := by decide +kernel
theorem dX4_winnerOf_17 : decode cX4_winnerOf 17 = .ok (.istore 6, 2) := by decide +kernel
theorem dX4_winnerOf_19 : decode cX4_winnerOf 19 = .ok (.iload 6, 2) := by decide +kernel
theorem dX4_winnerOf_21 : decode cX4_winnerOf 21 = .ok (.aload_n 0, 1) := by decide +kernel
theorem dX4_winnerOf_22 : decode cX4_winnerOf 22 = .ok (.getfield 27, 3) := by decide +kernel
theorem dX4_winnerOf_25 : decode cX4_winnerOf 25 = .ok (.if_icmp .ge 73, 3) := by decide +kernel
theorem dX4_winnerOf_28 : decode cX4_winnerOf 28 = .ok (.iload 6, 2) := by decide +kernel
theorem dX4_winnerOf_30 : decode cX4_winnerOf 30 = .ok (.bipush 6, 2) := by decide +kernel
theorem dX4_winnerOf_32 : decode cX4_winnerOf 32 = .ok (.irem, 1) := by decide +kernel
theorem dX4_winnerOf_33 : decode cX4_winnerOf 33 = .ok (.iconst 3, 1) := by decide +kernel
theorem dX4_winnerOf_34 : decode cX4_winnerOf 34 = .ok (.imul, 1) := by decide +kernel
theorem dX4_winnerOf_35 : decode cX4_winnerOf 35 = .ok (.istore 7, 2) := by decide +kernel
theorem dX4_winnerOf_37 : decode cX4_winnerOf 37 = .ok (.getstatic 72, 3) := by decide +kernel
theorem dX4_winnerOf_40 : decode cX4_winnerOf 40 = .ok (.iload 7, 2) := by decide +kernel
theorem dX4_winnerOf_42 : decode cX4_winnerOf 42 = .ok (.iload_n 3, 1) := by decide +kernel
theorem dX4_winnerOf_43 : decode cX4_winnerOf 43 = .ok (.iadd, 1) := by decide +kernel
theorem dX4_winnerOf_44 : decode cX4_winnerOf 44 = .ok (.iaload, 1) := by decide +kernel
theorem dX4_winnerOf_45 : decode cX4_winnerOf 45 = .ok (.getstatic 72, 3) := by decide +kernel
theorem dX4_winnerOf_48 : decode cX4_winnerOf 48 = .ok (.iload 7, 2) := by decide +kernel
theorem dX4_winnerOf_50 : decode cX4_winnerOf 50 = .ok (.iload 4, 2) := by decide +kernel
theorem dX4_winnerOf_52 : decode cX4_winnerOf 52 = .ok (.iadd, 1) := by decide +kernel
theorem dX4_winnerOf_53 : decode cX4_winnerOf 53 = .ok (.iaload, 1) := by decide +kernel
theorem dX4_winnerOf_54 : decode cX4_winnerOf 54 = .ok (.if_icmp .ge 7, 3) := by decide +kernel
theorem dX4_winnerOf_57 : decode cX4_winnerOf 57 = .ok (.iconst 1, 1) := by decide +kernel
theorem dX4_winnerOf_58 : decode cX4_winnerOf 58 = .ok (.goto 4, 3) := by decide +kernel
theorem dX4_winnerOf_61 : decode cX4_winnerOf 61 = .ok (.iconst 0, 1) := by decide +kernel
theorem dX4_winnerOf_62 : decode cX4_winnerOf 62 = .ok (.istore 8, 2) := by decide +kernel
theorem dX4_winnerOf_64 : decode cX4_winnerOf 64 = .ok (.iload 5, 2) := by decide +kernel
theorem dX4_winnerOf_66 : decode cX4_winnerOf 66 = .ok (.iload 8, 2) := by decide +kernel
theorem dX4_winnerOf_68 : decode cX4_winnerOf 68 = .ok (.ifCond .eq 13, 3) := by decide +kernel
theorem dX4_winnerOf_71 : decode cX4_winnerOf 71 = .ok (.aload_n 0, 1) := by decide +kernel
theorem dX4_winnerOf_72 : decode cX4_winnerOf 72 = .ok (.getfield 9, 3) := by decide +kernel
theorem dX4_winnerOf_75 : decode cX4_winnerOf 75 = .ok (.iload 6, 2) := by decide +kernel
theorem dX4_winnerOf_77 : decode cX4_winnerOf 77 = .ok (.iaload, 1) := by decide +kernel
theorem dX4_winnerOf_78 : decode cX4_winnerOf 78 = .ok (.goto 11, 3) := by decide +kernel
theorem dX4_winnerOf_81 : decode cX4_winnerOf 81 = .ok (.aload_n 0, 1) := by decide +kernel
theorem dX4_winnerOf_82 : decode cX4_winnerOf 82 = .ok (.getfield 9, 3) := by decide +kernel
theorem dX4_winnerOf_85 : decode cX4_winnerOf 85 = .ok (.iload 6, 2) := by decide +kernel
theorem dX4_winnerOf_87 : decode cX4_winnerOf 87 = .ok (.iaload, 1) := by decide +kernel
theorem dX4_winnerOf_88 : decode cX4_winnerOf 88 = .ok (.ineg, 1) := by decide +kernel
theorem dX4_winnerOf_89 : decode cX4_winnerOf 89 = .ok (.iadd, 1) := by decide +kernel
theorem dX4_winnerOf_90 : decode cX4_winnerOf 90 = .ok (.istore 5, 2) := by decide +kernel
theorem dX4_winnerOf_92 : decode cX4_winnerOf 92 = .ok (.iinc 6 1, 3) := by decide +kernel
theorem dX4_winnerOf_95 : decode cX4_winnerOf 95 = .ok (.goto (-76), 3) := by decide +kernel
theorem dX4_winnerOf_98 : decode cX4_winnerOf 98 = .ok (.iload 5, 2) := by decide +kernel
theorem dX4_winnerOf_100 : decode cX4_winnerOf 100 = .ok (.ifCond .lt 7, 3) := by decide +kernel
theorem dX4_winnerOf_103 : decode cX4_winnerOf 103 = .ok (.iload_n 3, 1) := by decide +kernel
theorem dX4_winnerOf_104 : decode cX4_winnerOf 104 = .ok (.goto 5, 3) := by decide +kernel
theorem dX4_winnerOf_107 : decode cX4_winnerOf 107 = .ok (.iload 4, 2) := by decide +kernel
theorem dX4_winnerOf_109 : decode cX4_winnerOf 109 = .ok (.ireturn, 1) := by decide +kernel
theorem dX4_toldOn_0 : decode cX4_toldOn 0 = .ok (.iload_n 1, 1) := by decide +kernel
theorem dX4_toldOn_1 : decode cX4_toldOn 1 = .ok (.istore_n 2, 1) := by decide +kernel
theorem dX4_toldOn_2 : decode cX4_toldOn 2 = .ok (.iconst 0, 1) := by decide +kernel
theorem dX4_toldOn_3 : decode cX4_toldOn 3 = .ok (.istore_n 3, 1) := by decide +kernel
theorem dX4_toldOn_4 : decode cX4_toldOn 4 = .ok (.iload_n 3, 1) := by decide +kernel
theorem dX4_toldOn_5 : decode cX4_toldOn 5 = .ok (.aload_n 0, 1) := by decide +kernel
theorem dX4_toldOn_6 : decode cX4_toldOn 6 = .ok (.getfield 27, 3) := by decide +kernel
theorem dX4_toldOn_9 : decode cX4_toldOn 9 = .ok (.if_icmp .ge 42, 3) := by decide +kernel
theorem dX4_toldOn_12 : decode cX4_toldOn 12 = .ok (.iload_n 1, 1) := by decide +kernel
theorem dX4_toldOn_13 : decode cX4_toldOn 13 = .ok (.iload_n 3, 1) := by decide +kernel
theorem dX4_toldOn_14 : decode cX4_toldOn 14 = .ok (.ishr, 1) := by decide +kernel
theorem dX4_toldOn_15 : decode cX4_toldOn 15 = .ok (.iconst 1, 1) := by decide +kernel
theorem dX4_toldOn_16 : decode cX4_toldOn 16 = .ok (.iand, 1) := by decide +kernel
theorem dX4_toldOn_17 : decode cX4_toldOn 17 = .ok (.iconst 1, 1) := by decide +kernel
theorem dX4_toldOn_18 : decode cX4_toldOn 18 = .ok (.if_icmp .ne 27, 3) := by decide +kernel
theorem dX4_toldOn_21 : decode cX4_toldOn 21 = .ok (.iload_n 2, 1) := by decide +kernel
theorem dX4_toldOn_22 : decode cX4_toldOn 22 = .ok (.iconst 1, 1) := by decide +kernel
theorem dX4_toldOn_23 : decode cX4_toldOn 23 = .ok (.iload_n 3, 1) := by decide +kernel
theorem dX4_toldOn_24 : decode cX4_toldOn 24 = .ok (.iconst 1, 1) := by decide +kernel
theorem dX4_toldOn_25 : decode cX4_toldOn 25 = .ok (.iadd, 1) := by decide +kernel
theorem dX4_toldOn_26 : decode cX4_toldOn 26 = .ok (.aload_n 0, 1) := by decide +kernel
theorem dX4_toldOn_27 : decode cX4_toldOn 27 = .ok (.getfield 27, 3) := by decide +kernel
theorem dX4_toldOn_30 : decode cX4_toldOn 30 = .ok (.irem, 1) := by decide +kernel
theorem dX4_toldOn_31 : decode cX4_toldOn 31 = .ok (.ishl, 1) := by decide +kernel
theorem dX4_toldOn_32 : decode cX4_toldOn 32 = .ok (.iconst 1, 1) := by decide +kernel
theorem dX4_toldOn_33 : decode cX4_toldOn 33 = .ok (.iload_n 3, 1) := by decide +kernel
theorem dX4_toldOn_34 : decode cX4_toldOn 34 = .ok (.iconst 3, 1) := by decide +kernel
theorem dX4_toldOn_35 : decode cX4_toldOn 35 = .ok (.iadd, 1) := by decide +kernel
theorem dX4_toldOn_36 : decode cX4_toldOn 36 = .ok (.aload_n 0, 1) := by decide +kernel
theorem dX4_toldOn_37 : decode cX4_toldOn 37 = .ok (.getfield 27, 3) := by decide +kernel
theorem dX4_toldOn_40 : decode cX4_toldOn 40 = .ok (.irem, 1) := by decide +kernel
theorem dX4_toldOn_41 : decode cX4_toldOn 41 = .ok (.ishl, 1) := by decide +kernel
theorem dX4_toldOn_42 : decode cX4_toldOn 42 = .ok (.ior, 1) := by decide +kernel
theorem dX4_toldOn_43 : decode cX4_toldOn 43 = .ok (.ior, 1) := by decide +kernel
theorem dX4_toldOn_44 : decode cX4_toldOn 44 = .ok (.istore_n 2, 1) := by decide +kernel
theorem dX4_toldOn_45 : decode cX4_toldOn 45 = .ok (.iinc 3 1, 3) := by decide +kernel
theorem dX4_toldOn_48 : decode cX4_toldOn 48 = .ok (.goto (-44), 3) := by decide +kernel
theorem dX4_toldOn_51 : decode cX4_toldOn 51 = .ok (.iload_n 2, 1) := by decide +kernel
theorem dX4_toldOn_52 : decode cX4_toldOn 52 = .ok (.ireturn, 1) := by decide +kernel
theorem dX5_init_0 : decode cX5_init 0 = .ok (.aload_n 0, 1) := by decide +kernel
theorem dX5_init_1 : decode cX5_init 1 = .ok (.invokespecial 3, 3) := by decide +kernel
theorem dX5_init_4 : decode cX5_init 4 = .ok (.aload_n 0, 1) := by decide +kernel
theorem dX5_init_5 : decode cX5_init 5 = .ok (.bipush 8, 2) := by decide +kernel
theorem dX5_init_7 : decode cX5_init 7 = .ok (.newarray .int, 2) := by decide +kernel
theorem dX5_init_9 : decode cX5_init 9 = .ok (.putfield 9, 3) := by decide +kernel
theorem dX5_init_12 : decode cX5_init 12 = .ok (.aload_n 0, 1) := by decide +kernel
theorem dX5_init_13 : decode cX5_init 13 = .ok (.bipush 8, 2) := by decide +kernel
theorem dX5_init_15 : decode cX5_init 15 = .ok (.newarray .int, 2) := by decide +kernel
theorem dX5_init_17 : decode cX5_init 17 = .ok (.putfield 15, 3) := by decide +kernel
theorem dX5_init_20 : decode cX5_init 20 = .ok (.aload_n 0, 1) := by decide +kernel
theorem dX5_init_21 : decode cX5_init 21 = .ok (.bipush 8, 2) := by decide +kernel
theorem dX5_init_23 : decode cX5_init 23 = .ok (.newarray .int, 2) := by decide +kernel
theorem dX5_init_25 : decode cX5_init 25 = .ok (.putfield 18, 3) := by decide +kernel
theorem dX5_init_28 : decode cX5_init 28 = .ok (.aload_n 0, 1) := by decide +kernel
theorem dX5_init_29 : decode cX5_init 29 = .ok (.bipush 8, 2) := by decide +kernel
theorem dX5_init_31 : decode cX5_init 31 = .ok (.newarray .int, 2) := by decide +kernel
theorem dX5_init_33 : decode cX5_init 33 = .ok (.putfield 21, 3) := by decide +kernel
theorem dX5_init_36 : decode cX5_init 36 = .ok (.return_, 1) := by decide +kernel
theorem dX5_begin_0 : decode cX5_begin 0 = .ok (.aload_n 1, 1) := by decide +kernel
theorem dX5_begin_1 : decode cX5_begin 1 = .ok (.getfield 24, 3) := by decide +kernel
theorem dX5_begin_4 : decode cX5_begin 4 = .ok (.iconst 0, 1) := by decide +kernel
theorem dX5_begin_5 : decode cX5_begin 5 = .ok (.aload_n 0, 1) := by decide +kernel
theorem dX5_begin_6 : decode cX5_begin 6 = .ok (.getfield 9, 3) := by decide +kernel
theorem dX5_begin_9 : decode cX5_begin 9 = .ok (.iconst 0, 1) := by decide +kernel
theorem dX5_begin_10 : decode cX5_begin 10 = .ok (.bipush 8, 2) := by decide +kernel
theorem dX5_begin_12 : decode cX5_begin 12 = .ok (.invokestatic 29, 3) := by decide +kernel
theorem dX5_begin_15 : decode cX5_begin 15 = .ok (.aload_n 1, 1) := by decide +kernel
theorem dX5_begin_16 : decode cX5_begin 16 = .ok (.getfield 35, 3) := by decide +kernel
theorem dX5_begin_19 : decode cX5_begin 19 = .ok (.iconst 0, 1) := by decide +kernel
theorem dX5_begin_20 : decode cX5_begin 20 = .ok (.aload_n 0, 1) := by decide +kernel
theorem dX5_begin_21 : decode cX5_begin 21 = .ok (.getfield 15, 3) := by decide +kernel
theorem dX5_begin_24 : decode cX5_begin 24 = .ok (.iconst 0, 1) := by decide +kernel
theorem dX5_begin_25 : decode cX5_begin 25 = .ok (.bipush 8, 2) := by decide +kernel
theorem dX5_begin_27 : decode cX5_begin 27 = .ok (.invokestatic 29, 3) := by decide +kernel
theorem dX5_begin_30 : decode cX5_begin 30 = .ok (.aload_n 0, 1) := by decide +kernel
theorem dX5_begin_31 : decode cX5_begin 31 = .ok (.getfield 18, 3) := by decide +kernel
theorem dX5_begin_34 : decode cX5_begin 34 = .ok (.iconst 0, 1) := by decide +kernel
theorem dX5_begin_35 : decode cX5_begin 35 = .ok (.invokestatic 36, 3) := by decide +kernel
theorem dX5_begin_38 : decode cX5_begin 38 = .ok (.aload_n 0, 1) := by decide +kernel
theorem dX5_begin_39 : decode cX5_begin 39 = .ok (.getfield 21, 3) := by decide +kernel
theorem dX5_begin_42 : decode cX5_begin 42 = .ok (.iconst 0, 1) := by decide +kernel
theorem dX5_begin_43 : decode cX5_begin 43 = .ok (.invokestatic 36, 3) := by decide +kernel
theorem dX5_begin_46 : decode cX5_begin 46 = .ok (.aload_n 0, 1) := by decide +kernel
theorem dX5_begin_47 : decode cX5_begin 47 = .ok (.iconst 1, 1) := by decide +kernel
theorem dX5_begin_48 : decode cX5_begin 48 = .ok (.aload_n 1, 1) := by decide +kernel
theorem dX5_begin_49 : decode cX5_begin 49 = .ok (.getfield 42, 3) := by decide +kernel
theorem dX5_begin_52 : decode cX5_begin 52 = .ok (.ishl, 1) := by decide +kernel
theorem dX5_begin_53 : decode cX5_begin 53 = .ok (.iconst 1, 1) := by decide +kernel
theorem dX5_begin_54 : decode cX5_begin 54 = .ok (.isub, 1) := by decide +kernel
theorem dX5_begin_55 : decode cX5_begin 55 = .ok (.putfield 46, 3) := by decide +kernel
theorem dX5_begin_58 : decode cX5_begin 58 = .ok (.aload_n 0, 1) := by decide +kernel
theorem dX5_begin_59 : decode cX5_begin 59 = .ok (.iconst 0, 1) := by decide +kernel
theorem dX5_begin_60 : decode cX5_begin 60 = .ok (.putfield 49, 3) := by decide +kernel
theorem dX5_begin_63 : decode cX5_begin 63 = .ok (.aload_n 0, 1) := by decide +kernel
theorem dX5_begin_64 : decode cX5_begin 64 = .ok (.iconst 0, 1) := by decide +kernel
theorem dX5_begin_65 : decode cX5_begin 65 = .ok (.putfield 52, 3) := by decide +kernel
theorem dX5_begin_68 : decode cX5_begin 68 = .ok (.aload_n 0, 1) := by decide +kernel
theorem dX5_begin_69 : decode cX5_begin 69 = .ok (.iconst 0, 1) := by decide +kernel
theorem dX5_begin_70 : decode cX5_begin 70 = .ok (.putfield 55, 3) := by decide +kernel
theorem dX5_begin_73 : decode cX5_begin 73 = .ok (.return_, 1) := by decide +kernel
theorem dX5_copyFrom_0 : decode cX5_copyFrom 0 = .ok (.aload_n 1, 1) := by decide +kernel
theorem dX5_copyFrom_1 : decode cX5_copyFrom 1 = .ok (.getfield 9, 3) := by decide +kernel
theorem dX5_copyFrom_4 : decode cX5_copyFrom 4 = .ok (.iconst 0, 1) := by decide +kernel
theorem dX5_copyFrom_5 : decode cX5_copyFrom 5 = .ok (.aload_n 0, 1) := by decide +kernel
theorem dX5_copyFrom_6 : decode cX5_copyFrom 6 = .ok (.getfield 9, 3) := by decide +kernel
theorem dX5_copyFrom_9 : decode cX5_copyFrom 9 = .ok (.iconst 0, 1) := by decide +kernel
theorem dX5_copyFrom_10 : decode cX5_copyFrom 10 = .ok (.bipush 8, 2) := by decide +kernel
theorem dX5_copyFrom_12 : decode cX5_copyFrom 12 = .ok (.invokestatic 29, 3) := by decide +kernel
theorem dX5_copyFrom_15 : decode cX5_copyFrom 15 = .ok (.aload_n 1, 1) := by decide +kernel
theorem dX5_copyFrom_16 : decode cX5_copyFrom 16 = .ok (.getfield 15, 3) := by decide +kernel
theorem dX5_copyFrom_19 : decode cX5_copyFrom 19 = .ok (.iconst 0, 1) := by decide +kernel
theorem dX5_copyFrom_20 : decode cX5_copyFrom 20 = .ok (.aload_n 0, 1) := by decide +kernel
theorem dX5_copyFrom_21 : decode cX5_copyFrom 21 = .ok (.getfield 15, 3) := by decide +kernel
theorem dX5_copyFrom_24 : decode cX5_copyFrom 24 = .ok (.iconst 0, 1) := by decide +kernel
theorem dX5_copyFrom_25 : decode cX5_copyFrom 25 = .ok (.bipush 8, 2) := by decide +kernel
theorem dX5_copyFrom_27 : decode cX5_copyFrom 27 = .ok (.invokestatic 29, 3) := by decide +kernel
theorem dX5_copyFrom_30 : decode cX5_copyFrom 30 = .ok (.aload_n 1, 1) := by decide +kernel
theorem dX5_copyFrom_31 : decode cX5_copyFrom 31 = .ok (.getfield 18, 3) := by decide +kernel
theorem dX5_copyFrom_34 : decode cX5_copyFrom 34 = .ok (.iconst 0, 1) := by decide +kernel
theorem dX5_copyFrom_35 : decode cX5_copyFrom 35 = .ok (.aload_n 0, 1) := by decide +kernel
theorem dX5_copyFrom_36 : decode cX5_copyFrom 36 = .ok (.getfield 18, 3) := by decide +kernel
theorem dX5_copyFrom_39 : decode cX5_copyFrom 39 = .ok (.iconst 0, 1) := by decide +kernel
