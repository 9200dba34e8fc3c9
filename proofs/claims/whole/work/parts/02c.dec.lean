theorem dX7_skipBlanks_15 : decode cX7_skipBlanks 15 = .ok (.bipush 32, 2) := by decide +kernel
theorem dX7_skipBlanks_17 : decode cX7_skipBlanks 17 = .ok (.if_icmp .ne 16, 3) := by decide +kernel
theorem dX7_skipBlanks_20 : decode cX7_skipBlanks 20 = .ok (.aload_n 0, 1) := by decide +kernel
theorem dX7_skipBlanks_21 : decode cX7_skipBlanks 21 = .ok (.dup, 1) := by decide +kernel
theorem dX7_skipBlanks_22 : decode cX7_skipBlanks 22 = .ok (.getfield 19, 3) := by decide +kernel
theorem dX7_skipBlanks_25 : decode cX7_skipBlanks 25 = .ok (.iconst 1, 1) := by decide +kernel
theorem dX7_skipBlanks_26 : decode cX7_skipBlanks 26 = .ok (.iadd, 1) := by decide +kernel
theorem dX7_skipBlanks_27 : decode cX7_skipBlanks 27 = .ok (.putfield 19, 3) := by decide +kernel
theorem dX7_skipBlanks_30 : decode cX7_skipBlanks 30 = .ok (.goto (-30), 3) := by decide +kernel
theorem dX7_skipBlanks_33 : decode cX7_skipBlanks 33 = .ok (.return_, 1) := by decide +kernel
theorem dX7_letterHere_0 : decode cX7_letterHere 0 = .ok (.aload_n 0, 1) := by decide +kernel
theorem dX7_letterHere_1 : decode cX7_letterHere 1 = .ok (.getfield 19, 3) := by decide +kernel
theorem dX7_letterHere_4 : decode cX7_letterHere 4 = .ok (.ifCond .lt 36, 3) := by decide +kernel
theorem dX7_letterHere_7 : decode cX7_letterHere 7 = .ok (.aload_n 0, 1) := by decide +kernel
theorem dX7_letterHere_8 : decode cX7_letterHere 8 = .ok (.getfield 19, 3) := by decide +kernel
theorem dX7_letterHere_11 : decode cX7_letterHere 11 = .ok (.aload_n 0, 1) := by decide +kernel
theorem dX7_letterHere_12 : decode cX7_letterHere 12 = .ok (.getfield 33, 3) := by decide +kernel
theorem dX7_letterHere_15 : decode cX7_letterHere 15 = .ok (.if_icmp .ge 25, 3) := by decide +kernel
theorem dX7_letterHere_18 : decode cX7_letterHere 18 = .ok (.aload_n 0, 1) := by decide +kernel
theorem dX7_letterHere_19 : decode cX7_letterHere 19 = .ok (.getfield 19, 3) := by decide +kernel
theorem dX7_letterHere_22 : decode cX7_letterHere 22 = .ok (.sipush 240, 3) := by decide +kernel
theorem dX7_letterHere_25 : decode cX7_letterHere 25 = .ok (.if_icmp .ge 15, 3) := by decide +kernel
theorem dX7_letterHere_28 : decode cX7_letterHere 28 = .ok (.aload_n 0, 1) := by decide +kernel
theorem dX7_letterHere_29 : decode cX7_letterHere 29 = .ok (.getfield 9, 3) := by decide +kernel
theorem dX7_letterHere_32 : decode cX7_letterHere 32 = .ok (.aload_n 0, 1) := by decide +kernel
theorem dX7_letterHere_33 : decode cX7_letterHere 33 = .ok (.getfield 19, 3) := by decide +kernel
theorem dX7_letterHere_36 : decode cX7_letterHere 36 = .ok (.iaload, 1) := by decide +kernel
theorem dX7_letterHere_37 : decode cX7_letterHere 37 = .ok (.goto 4, 3) := by decide +kernel
theorem dX7_letterHere_40 : decode cX7_letterHere 40 = .ok (.iconst (-1), 1) := by decide +kernel
theorem dX7_letterHere_41 : decode cX7_letterHere 41 = .ok (.ireturn, 1) := by decide +kernel
theorem dX7_fail_0 : decode cX7_fail 0 = .ok (.aload_n 0, 1) := by decide +kernel
theorem dX7_fail_1 : decode cX7_fail 1 = .ok (.getfield 22, 3) := by decide +kernel
theorem dX7_fail_4 : decode cX7_fail 4 = .ok (.ifCond .ne 13, 3) := by decide +kernel
theorem dX7_fail_7 : decode cX7_fail 7 = .ok (.aload_n 0, 1) := by decide +kernel
theorem dX7_fail_8 : decode cX7_fail 8 = .ok (.iload_n 1, 1) := by decide +kernel
theorem dX7_fail_9 : decode cX7_fail 9 = .ok (.putfield 22, 3) := by decide +kernel
theorem dX7_fail_12 : decode cX7_fail 12 = .ok (.aload_n 0, 1) := by decide +kernel
theorem dX7_fail_13 : decode cX7_fail 13 = .ok (.iload_n 2, 1) := by decide +kernel
theorem dX7_fail_14 : decode cX7_fail 14 = .ok (.putfield 15, 3) := by decide +kernel
theorem dX7_fail_17 : decode cX7_fail 17 = .ok (.return_, 1) := by decide +kernel
theorem dX8_init_0 : decode cX8_init 0 = .ok (.aload_n 0, 1) := by decide +kernel
theorem dX8_init_1 : decode cX8_init 1 = .ok (.invokespecial 3, 3) := by decide +kernel
theorem dX8_init_4 : decode cX8_init 4 = .ok (.aload_n 0, 1) := by decide +kernel
theorem dX8_init_5 : decode cX8_init 5 = .ok (.bipush 7, 2) := by decide +kernel
theorem dX8_init_7 : decode cX8_init 7 = .ok (.newarray .int, 2) := by decide +kernel
theorem dX8_init_9 : decode cX8_init 9 = .ok (.putfield 9, 3) := by decide +kernel
theorem dX8_init_12 : decode cX8_init 12 = .ok (.aload_n 0, 1) := by decide +kernel
theorem dX8_init_13 : decode cX8_init 13 = .ok (.bipush 8, 2) := by decide +kernel
theorem dX8_init_15 : decode cX8_init 15 = .ok (.sipush 256, 3) := by decide +kernel
theorem dX8_init_18 : decode cX8_init 18 = .ok (.multianewarray 15 2, 4) := by decide +kernel
theorem dX8_init_22 : decode cX8_init 22 = .ok (.putfield 17, 3) := by decide +kernel
theorem dX8_init_25 : decode cX8_init 25 = .ok (.return_, 1) := by decide +kernel
theorem dX8_weigh_0 : decode cX8_weigh 0 = .ok (.aload_n 0, 1) := by decide +kernel
theorem dX8_weigh_1 : decode cX8_weigh 1 = .ok (.getfield 9, 3) := by decide +kernel
theorem dX8_weigh_4 : decode cX8_weigh 4 = .ok (.iconst 0, 1) := by decide +kernel
theorem dX8_weigh_5 : decode cX8_weigh 5 = .ok (.invokestatic 20, 3) := by decide +kernel
theorem dX8_weigh_8 : decode cX8_weigh 8 = .ok (.iconst 0, 1) := by decide +kernel
theorem dX8_weigh_9 : decode cX8_weigh 9 = .ok (.istore_n 3, 1) := by decide +kernel
theorem dX8_weigh_10 : decode cX8_weigh 10 = .ok (.iload_n 3, 1) := by decide +kernel
theorem dX8_weigh_11 : decode cX8_weigh 11 = .ok (.aload_n 1, 1) := by decide +kernel
theorem dX8_weigh_12 : decode cX8_weigh 12 = .ok (.getfield 26, 3) := by decide +kernel
theorem dX8_weigh_15 : decode cX8_weigh 15 = .ok (.if_icmp .ge 29, 3) := by decide +kernel
theorem dX8_weigh_18 : decode cX8_weigh 18 = .ok (.aload_n 0, 1) := by decide +kernel
theorem dX8_weigh_19 : decode cX8_weigh 19 = .ok (.getfield 9, 3) := by decide +kernel
theorem dX8_weigh_22 : decode cX8_weigh 22 = .ok (.aload_n 1, 1) := by decide +kernel
theorem dX8_weigh_23 : decode cX8_weigh 23 = .ok (.getfield 32, 3) := by decide +kernel
theorem dX8_weigh_26 : decode cX8_weigh 26 = .ok (.iload_n 3, 1) := by decide +kernel
theorem dX8_weigh_27 : decode cX8_weigh 27 = .ok (.iaload, 1) := by decide +kernel
theorem dX8_weigh_28 : decode cX8_weigh 28 = .ok (.dup2, 1) := by decide +kernel
theorem dX8_weigh_29 : decode cX8_weigh 29 = .ok (.iaload, 1) := by decide +kernel
theorem dX8_weigh_30 : decode cX8_weigh 30 = .ok (.aload_n 2, 1) := by decide +kernel
theorem dX8_weigh_31 : decode cX8_weigh 31 = .ok (.getfield 35, 3) := by decide +kernel
theorem dX8_weigh_34 : decode cX8_weigh 34 = .ok (.iload_n 3, 1) := by decide +kernel
theorem dX8_weigh_35 : decode cX8_weigh 35 = .ok (.iaload, 1) := by decide +kernel
theorem dX8_weigh_36 : decode cX8_weigh 36 = .ok (.ior, 1) := by decide +kernel
theorem dX8_weigh_37 : decode cX8_weigh 37 = .ok (.iastore, 1) := by decide +kernel
theorem dX8_weigh_38 : decode cX8_weigh 38 = .ok (.iinc 3 1, 3) := by decide +kernel
theorem dX8_weigh_41 : decode cX8_weigh 41 = .ok (.goto (-31), 3) := by decide +kernel
theorem dX8_weigh_44 : decode cX8_weigh 44 = .ok (.aload_n 0, 1) := by decide +kernel
theorem dX8_weigh_45 : decode cX8_weigh 45 = .ok (.getfield 17, 3) := by decide +kernel
theorem dX8_weigh_48 : decode cX8_weigh 48 = .ok (.aload_n 1, 1) := by decide +kernel
theorem dX8_weigh_49 : decode cX8_weigh 49 = .ok (.getfield 40, 3) := by decide +kernel
theorem dX8_weigh_52 : decode cX8_weigh 52 = .ok (.aaload, 1) := by decide +kernel
theorem dX8_weigh_53 : decode cX8_weigh 53 = .ok (.iconst 0, 1) := by decide +kernel
theorem dX8_weigh_54 : decode cX8_weigh 54 = .ok (.invokestatic 20, 3) := by decide +kernel
theorem dX8_weigh_57 : decode cX8_weigh 57 = .ok (.aload_n 1, 1) := by decide +kernel
theorem dX8_weigh_58 : decode cX8_weigh 58 = .ok (.getfield 40, 3) := by decide +kernel
theorem dX8_weigh_61 : decode cX8_weigh 61 = .ok (.iconst 1, 1) := by decide +kernel
theorem dX8_weigh_62 : decode cX8_weigh 62 = .ok (.isub, 1) := by decide +kernel
theorem dX8_weigh_63 : decode cX8_weigh 63 = .ok (.istore_n 3, 1) := by decide +kernel
theorem dX8_weigh_64 : decode cX8_weigh 64 = .ok (.iload_n 3, 1) := by decide +kernel
theorem dX8_weigh_65 : decode cX8_weigh 65 = .ok (.ifCond .lt 56, 3) := by decide +kernel
theorem dX8_weigh_68 : decode cX8_weigh 68 = .ok (.iconst 0, 1) := by decide +kernel
theorem dX8_weigh_69 : decode cX8_weigh 69 = .ok (.istore 4, 2) := by decide +kernel
theorem dX8_weigh_71 : decode cX8_weigh 71 = .ok (.iload 4, 2) := by decide +kernel
theorem dX8_weigh_73 : decode cX8_weigh 73 = .ok (.iconst 1, 1) := by decide +kernel
theorem dX8_weigh_74 : decode cX8_weigh 74 = .ok (.aload_n 1, 1) := by decide +kernel
theorem dX8_weigh_75 : decode cX8_weigh 75 = .ok (.getfield 26, 3) := by decide +kernel
theorem dX8_weigh_78 : decode cX8_weigh 78 = .ok (.ishl, 1) := by decide +kernel
theorem dX8_weigh_79 : decode cX8_weigh 79 = .ok (.if_icmp .ge 36, 3) := by decide +kernel
theorem dX8_weigh_82 : decode cX8_weigh 82 = .ok (.iload 4, 2) := by decide +kernel
theorem dX8_weigh_84 : decode cX8_weigh 84 = .ok (.invokestatic 43, 3) := by decide +kernel
theorem dX8_weigh_87 : decode cX8_weigh 87 = .ok (.iload_n 3, 1) := by decide +kernel
theorem dX8_weigh_88 : decode cX8_weigh 88 = .ok (.if_icmp .gt 21, 3) := by decide +kernel
theorem dX8_weigh_91 : decode cX8_weigh 91 = .ok (.aload_n 0, 1) := by decide +kernel
theorem dX8_weigh_92 : decode cX8_weigh 92 = .ok (.getfield 17, 3) := by decide +kernel
theorem dX8_weigh_95 : decode cX8_weigh 95 = .ok (.iload_n 3, 1) := by decide +kernel
theorem dX8_weigh_96 : decode cX8_weigh 96 = .ok (.aaload, 1) := by decide +kernel
theorem dX8_weigh_97 : decode cX8_weigh 97 = .ok (.iload 4, 2) := by decide +kernel
theorem dX8_weigh_99 : decode cX8_weigh 99 = .ok (.aload_n 0, 1) := by decide +kernel
theorem dX8_weigh_100 : decode cX8_weigh 100 = .ok (.aload_n 1, 1) := by decide +kernel
theorem dX8_weigh_101 : decode cX8_weigh 101 = .ok (.aload_n 2, 1) := by decide +kernel
theorem dX8_weigh_102 : decode cX8_weigh 102 = .ok (.iload_n 3, 1) := by decide +kernel
theorem dX8_weigh_103 : decode cX8_weigh 103 = .ok (.iload 4, 2) := by decide +kernel
theorem dX8_weigh_105 : decode cX8_weigh 105 = .ok (.invokevirtual 49, 3) := by decide +kernel
theorem dX8_weigh_108 : decode cX8_weigh 108 = .ok (.iastore, 1) := by decide +kernel
theorem dX8_weigh_109 : decode cX8_weigh 109 = .ok (.iinc 4 1, 3) := by decide +kernel
theorem dX8_weigh_112 : decode cX8_weigh 112 = .ok (.goto (-41), 3) := by decide +kernel
theorem dX8_weigh_115 : decode cX8_weigh 115 = .ok (.iinc 3 (-1), 3) := by decide +kernel
theorem dX8_weigh_118 : decode cX8_weigh 118 = .ok (.goto (-54), 3) := by decide +kernel
theorem dX8_weigh_121 : decode cX8_weigh 121 = .ok (.return_, 1) := by decide +kernel
theorem dX8_mostFrom_0 : decode cX8_mostFrom 0 = .ok (.aload_n 0, 1) := by decide +kernel
theorem dX8_mostFrom_1 : decode cX8_mostFrom 1 = .ok (.getfield 17, 3) := by decide +kernel
theorem dX8_mostFrom_4 : decode cX8_mostFrom 4 = .ok (.iload_n 3, 1) := by decide +kernel
theorem dX8_mostFrom_5 : decode cX8_mostFrom 5 = .ok (.iconst 1, 1) := by decide +kernel
theorem dX8_mostFrom_6 : decode cX8_mostFrom 6 = .ok (.iadd, 1) := by decide +kernel
theorem dX8_mostFrom_7 : decode cX8_mostFrom 7 = .ok (.aaload, 1) := by decide +kernel
theorem dX8_mostFrom_8 : decode cX8_mostFrom 8 = .ok (.iload 4, 2) := by decide +kernel
theorem dX8_mostFrom_10 : decode cX8_mostFrom 10 = .ok (.iaload, 1) := by decide +kernel
theorem dX8_mostFrom_11 : decode cX8_mostFrom 11 = .ok (.istore 5, 2) := by decide +kernel
theorem dX8_mostFrom_13 : decode cX8_mostFrom 13 = .ok (.iconst 0, 1) := by decide +kernel
theorem dX8_mostFrom_14 : decode cX8_mostFrom 14 = .ok (.istore 6, 2) := by decide +kernel
theorem dX8_mostFrom_16 : decode cX8_mostFrom 16 = .ok (.iload 6, 2) := by decide +kernel
theorem dX8_mostFrom_18 : decode cX8_mostFrom 18 = .ok (.aload_n 1, 1) := by decide +kernel
theorem dX8_mostFrom_19 : decode cX8_mostFrom 19 = .ok (.getfield 26, 3) := by decide +kernel
theorem dX8_mostFrom_22 : decode cX8_mostFrom 22 = .ok (.if_icmp .ge 51, 3) := by decide +kernel
theorem dX8_mostFrom_25 : decode cX8_mostFrom 25 = .ok (.iload 4, 2) := by decide +kernel
theorem dX8_mostFrom_27 : decode cX8_mostFrom 27 = .ok (.iload 6, 2) := by decide +kernel
theorem dX8_mostFrom_29 : decode cX8_mostFrom 29 = .ok (.ishr, 1) := by decide +kernel
theorem dX8_mostFrom_30 : decode cX8_mostFrom 30 = .ok (.iconst 1, 1) := by decide +kernel
theorem dX8_mostFrom_31 : decode cX8_mostFrom 31 = .ok (.iand, 1) := by decide +kernel
theorem dX8_mostFrom_32 : decode cX8_mostFrom 32 = .ok (.ifCond .ne 35, 3) := by decide +kernel
theorem dX8_mostFrom_35 : decode cX8_mostFrom 35 = .ok (.iload 5, 2) := by decide +kernel
theorem dX8_mostFrom_37 : decode cX8_mostFrom 37 = .ok (.aload_n 0, 1) := by decide +kernel
theorem dX8_mostFrom_38 : decode cX8_mostFrom 38 = .ok (.aload_n 2, 1) := by decide +kernel
theorem dX8_mostFrom_39 : decode cX8_mostFrom 39 = .ok (.iload_n 3, 1) := by decide +kernel
theorem dX8_mostFrom_40 : decode cX8_mostFrom 40 = .ok (.iload 6, 2) := by decide +kernel
theorem dX8_mostFrom_42 : decode cX8_mostFrom 42 = .ok (.invokevirtual 53, 3) := by decide +kernel
theorem dX8_mostFrom_45 : decode cX8_mostFrom 45 = .ok (.aload_n 0, 1) := by decide +kernel
theorem dX8_mostFrom_46 : decode cX8_mostFrom 46 = .ok (.getfield 17, 3) := by decide +kernel
theorem dX8_mostFrom_49 : decode cX8_mostFrom 49 = .ok (.iload_n 3, 1) := by decide +kernel
theorem dX8_mostFrom_50 : decode cX8_mostFrom 50 = .ok (.iconst 1, 1) := by decide +kernel
theorem dX8_mostFrom_51 : decode cX8_mostFrom 51 = .ok (.iadd, 1) := by decide +kernel
theorem dX8_mostFrom_52 : decode cX8_mostFrom 52 = .ok (.aaload, 1) := by decide +kernel
theorem dX8_mostFrom_53 : decode cX8_mostFrom 53 = .ok (.iload 4, 2) := by decide +kernel
theorem dX8_mostFrom_55 : decode cX8_mostFrom 55 = .ok (.iconst 1, 1) := by decide +kernel
theorem dX8_mostFrom_56 : decode cX8_mostFrom 56 = .ok (.iload 6, 2) := by decide +kernel
theorem dX8_mostFrom_58 : decode cX8_mostFrom 58 = .ok (.ishl, 1) := by decide +kernel
theorem dX8_mostFrom_59 : decode cX8_mostFrom 59 = .ok (.ior, 1) := by decide +kernel
theorem dX8_mostFrom_60 : decode cX8_mostFrom 60 = .ok (.iaload, 1) := by decide +kernel
theorem dX8_mostFrom_61 : decode cX8_mostFrom 61 = .ok (.iadd, 1) := by decide +kernel
theorem dX8_mostFrom_62 : decode cX8_mostFrom 62 = .ok (.invokestatic 57, 3) := by decide +kernel
theorem dX8_mostFrom_65 : decode cX8_mostFrom 65 = .ok (.istore 5, 2) := by decide +kernel
theorem dX8_mostFrom_67 : decode cX8_mostFrom 67 = .ok (.iinc 6 1, 3) := by decide +kernel
theorem dX8_mostFrom_70 : decode cX8_mostFrom 70 = .ok (.goto (-54), 3) := by decide +kernel
theorem dX8_mostFrom_73 : decode cX8_mostFrom 73 = .ok (.iload 5, 2) := by decide +kernel
theorem dX8_mostFrom_75 : decode cX8_mostFrom 75 = .ok (.ireturn, 1) := by decide +kernel
theorem dX8_pleasure_0 : decode cX8_pleasure 0 = .ok (.aload_n 1, 1) := by decide +kernel
theorem dX8_pleasure_1 : decode cX8_pleasure 1 = .ok (.getfield 35, 3) := by decide +kernel
theorem dX8_pleasure_4 : decode cX8_pleasure 4 = .ok (.iload_n 3, 1) := by decide +kernel
theorem dX8_pleasure_5 : decode cX8_pleasure 5 = .ok (.iaload, 1) := by decide +kernel
theorem dX8_pleasure_6 : decode cX8_pleasure 6 = .ok (.aload_n 0, 1) := by decide +kernel
theorem dX8_pleasure_7 : decode cX8_pleasure 7 = .ok (.getfield 9, 3) := by decide +kernel
theorem dX8_pleasure_10 : decode cX8_pleasure 10 = .ok (.iload_n 2, 1) := by decide +kernel
theorem dX8_pleasure_11 : decode cX8_pleasure 11 = .ok (.iaload, 1) := by decide +kernel
theorem dX8_pleasure_12 : decode cX8_pleasure 12 = .ok (.iand, 1) := by decide +kernel
theorem dX8_pleasure_13 : decode cX8_pleasure 13 = .ok (.invokestatic 43, 3) := by decide +kernel
theorem dX8_pleasure_16 : decode cX8_pleasure 16 = .ok (.ireturn, 1) := by decide +kernel
theorem dX8_most_0 : decode cX8_most 0 = .ok (.aload_n 0, 1) := by decide +kernel
theorem dX8_most_1 : decode cX8_most 1 = .ok (.getfield 17, 3) := by decide +kernel
theorem dX8_most_4 : decode cX8_most 4 = .ok (.iconst 0, 1) := by decide +kernel
theorem dX8_most_5 : decode cX8_most 5 = .ok (.aaload, 1) := by decide +kernel
theorem dX8_most_6 : decode cX8_most 6 = .ok (.iconst 0, 1) := by decide +kernel
theorem dX8_most_7 : decode cX8_most 7 = .ok (.iaload, 1) := by decide +kernel
theorem dX8_most_8 : decode cX8_most 8 = .ok (.ireturn, 1) := by decide +kernel
theorem dX8_dollOf_0 : decode cX8_dollOf 0 = .ok (.iconst 0, 1) := by decide +kernel
theorem dX8_dollOf_1 : decode cX8_dollOf 1 = .ok (.istore 4, 2) := by decide +kernel
theorem dX8_dollOf_3 : decode cX8_dollOf 3 = .ok (.iconst (-1), 1) := by decide +kernel
theorem dX8_dollOf_4 : decode cX8_dollOf 4 = .ok (.istore 5, 2) := by decide +kernel
theorem dX8_dollOf_6 : decode cX8_dollOf 6 = .ok (.iconst 0, 1) := by decide +kernel
theorem dX8_dollOf_7 : decode cX8_dollOf 7 = .ok (.istore 6, 2) := by decide +kernel
theorem dX8_dollOf_9 : decode cX8_dollOf 9 = .ok (.iload 6, 2) := by decide +kernel
theorem dX8_dollOf_11 : decode cX8_dollOf 11 = .ok (.iload_n 3, 1) := by decide +kernel
theorem dX8_dollOf_12 : decode cX8_dollOf 12 = .ok (.if_icmp .gt 36, 3) := by decide +kernel
theorem dX8_dollOf_15 : decode cX8_dollOf 15 = .ok (.aload_n 0, 1) := by decide +kernel
theorem dX8_dollOf_16 : decode cX8_dollOf 16 = .ok (.aload_n 1, 1) := by decide +kernel
theorem dX8_dollOf_17 : decode cX8_dollOf 17 = .ok (.aload_n 2, 1) := by decide +kernel
theorem dX8_dollOf_18 : decode cX8_dollOf 18 = .ok (.iload 6, 2) := by decide +kernel
theorem dX8_dollOf_20 : decode cX8_dollOf 20 = .ok (.iload 4, 2) := by decide +kernel
theorem dX8_dollOf_22 : decode cX8_dollOf 22 = .ok (.invokevirtual 63, 3) := by decide +kernel
theorem dX8_dollOf_25 : decode cX8_dollOf 25 = .ok (.istore 5, 2) := by decide +kernel
theorem dX8_dollOf_27 : decode cX8_dollOf 27 = .ok (.iload 5, 2) := by decide +kernel
theorem dX8_dollOf_29 : decode cX8_dollOf 29 = .ok (.iconst (-1), 1) := by decide +kernel
theorem dX8_dollOf_30 : decode cX8_dollOf 30 = .ok (.if_icmp .eq 12, 3) := by decide +kernel
theorem dX8_dollOf_33 : decode cX8_dollOf 33 = .ok (.iload 4, 2) := by decide +kernel
theorem dX8_dollOf_35 : decode cX8_dollOf 35 = .ok (.iconst 1, 1) := by decide +kernel
theorem dX8_dollOf_36 : decode cX8_dollOf 36 = .ok (.iload 5, 2) := by decide +kernel
theorem dX8_dollOf_38 : decode cX8_dollOf 38 = .ok (.ishl, 1) := by decide +kernel
theorem dX8_dollOf_39 : decode cX8_dollOf 39 = .ok (.ior, 1) := by decide +kernel
theorem dX8_dollOf_40 : decode cX8_dollOf 40 = .ok (.istore 4, 2) := by decide +kernel
theorem dX8_dollOf_42 : decode cX8_dollOf 42 = .ok (.iinc 6 1, 3) := by decide +kernel
theorem dX8_dollOf_45 : decode cX8_dollOf 45 = .ok (.goto (-36), 3) := by decide +kernel
theorem dX8_dollOf_48 : decode cX8_dollOf 48 = .ok (.iload 5, 2) := by decide +kernel
theorem dX8_dollOf_50 : decode cX8_dollOf 50 = .ok (.ireturn, 1) := by decide +kernel
theorem dX8_leastTaken_0 : decode cX8_leastTaken 0 = .ok (.iconst 0, 1) := by decide +kernel
theorem dX8_leastTaken_1 : decode cX8_leastTaken 1 = .ok (.istore 5, 2) := by decide +kernel
theorem dX8_leastTaken_3 : decode cX8_leastTaken 3 = .ok (.iload 5, 2) := by decide +kernel
theorem dX8_leastTaken_5 : decode cX8_leastTaken 5 = .ok (.aload_n 1, 1) := by decide +kernel
theorem dX8_leastTaken_6 : decode cX8_leastTaken 6 = .ok (.getfield 26, 3) := by decide +kernel
theorem dX8_leastTaken_9 : decode cX8_leastTaken 9 = .ok (.if_icmp .ge 71, 3) := by decide +kernel
theorem dX8_leastTaken_12 : decode cX8_leastTaken 12 = .ok (.iload 4, 2) := by decide +kernel
theorem dX8_leastTaken_14 : decode cX8_leastTaken 14 = .ok (.iload 5, 2) := by decide +kernel
theorem dX8_leastTaken_16 : decode cX8_leastTaken 16 = .ok (.ishr, 1) := by decide +kernel
theorem dX8_leastTaken_17 : decode cX8_leastTaken 17 = .ok (.iconst 1, 1) := by decide +kernel
theorem dX8_leastTaken_18 : decode cX8_leastTaken 18 = .ok (.iand, 1) := by decide +kernel
theorem dX8_leastTaken_19 : decode cX8_leastTaken 19 = .ok (.ifCond .ne 7, 3) := by decide +kernel
theorem dX8_leastTaken_22 : decode cX8_leastTaken 22 = .ok (.iconst 1, 1) := by decide +kernel
theorem dX8_leastTaken_23 : decode cX8_leastTaken 23 = .ok (.goto 4, 3) := by decide +kernel
theorem dX8_leastTaken_26 : decode cX8_leastTaken 26 = .ok (.iconst 0, 1) := by decide +kernel
theorem dX8_leastTaken_27 : decode cX8_leastTaken 27 = .ok (.istore 6, 2) := by decide +kernel
theorem dX8_leastTaken_29 : decode cX8_leastTaken 29 = .ok (.iload 6, 2) := by decide +kernel
theorem dX8_leastTaken_31 : decode cX8_leastTaken 31 = .ok (.ifCond .eq 43, 3) := by decide +kernel
theorem dX8_leastTaken_34 : decode cX8_leastTaken 34 = .ok (.aload_n 0, 1) := by decide +kernel
theorem dX8_leastTaken_35 : decode cX8_leastTaken 35 = .ok (.aload_n 2, 1) := by decide +kernel
theorem dX8_leastTaken_36 : decode cX8_leastTaken 36 = .ok (.iload_n 3, 1) := by decide +kernel
theorem dX8_leastTaken_37 : decode cX8_leastTaken 37 = .ok (.iload 5, 2) := by decide +kernel
theorem dX8_leastTaken_39 : decode cX8_leastTaken 39 = .ok (.invokevirtual 53, 3) := by decide +kernel
theorem dX8_leastTaken_42 : decode cX8_leastTaken 42 = .ok (.aload_n 0, 1) := by decide +kernel
theorem dX8_leastTaken_43 : decode cX8_leastTaken 43 = .ok (.getfield 17, 3) := by decide +kernel
theorem dX8_leastTaken_46 : decode cX8_leastTaken 46 = .ok (.iload_n 3, 1) := by decide +kernel
theorem dX8_leastTaken_47 : decode cX8_leastTaken 47 = .ok (.iconst 1, 1) := by decide +kernel
theorem dX8_leastTaken_48 : decode cX8_leastTaken 48 = .ok (.iadd, 1) := by decide +kernel
theorem dX8_leastTaken_49 : decode cX8_leastTaken 49 = .ok (.aaload, 1) := by decide +kernel
theorem dX8_leastTaken_50 : decode cX8_leastTaken 50 = .ok (.iload 4, 2) := by decide +kernel
theorem dX8_leastTaken_52 : decode cX8_leastTaken 52 = .ok (.iconst 1, 1) := by decide +kernel
theorem dX8_leastTaken_53 : decode cX8_leastTaken 53 = .ok (.iload 5, 2) := by decide +kernel
theorem dX8_leastTaken_55 : decode cX8_leastTaken 55 = .ok (.ishl, 1) := by decide +kernel
theorem dX8_leastTaken_56 : decode cX8_leastTaken 56 = .ok (.ior, 1) := by decide +kernel
theorem dX8_leastTaken_57 : decode cX8_leastTaken 57 = .ok (.iaload, 1) := by decide +kernel
theorem dX8_leastTaken_58 : decode cX8_leastTaken 58 = .ok (.iadd, 1) := by decide +kernel
theorem dX8_leastTaken_59 : decode cX8_leastTaken 59 = .ok (.aload_n 0, 1) := by decide +kernel
theorem dX8_leastTaken_60 : decode cX8_leastTaken 60 = .ok (.getfield 17, 3) := by decide +kernel
theorem dX8_leastTaken_63 : decode cX8_leastTaken 63 = .ok (.iload_n 3, 1) := by decide +kernel
theorem dX8_leastTaken_64 : decode cX8_leastTaken 64 = .ok (.aaload, 1) := by decide +kernel
theorem dX8_leastTaken_65 : decode cX8_leastTaken 65 = .ok (.iload 4, 2) := by decide +kernel
theorem dX8_leastTaken_67 : decode cX8_leastTaken 67 = .ok (.iaload, 1) := by decide +kernel
theorem dX8_leastTaken_68 : decode cX8_leastTaken 68 = .ok (.if_icmp .ne 6, 3) := by decide +kernel
theorem dX8_leastTaken_71 : decode cX8_leastTaken 71 = .ok (.iload 5, 2) := by decide +kernel
theorem dX8_leastTaken_73 : decode cX8_leastTaken 73 = .ok (.ireturn, 1) := by decide +kernel
theorem dX8_leastTaken_74 : decode cX8_leastTaken 74 = .ok (.iinc 5 1, 3) := by decide +kernel
theorem dX8_leastTaken_77 : decode cX8_leastTaken 77 = .ok (.goto (-74), 3) := by decide +kernel
theorem dX8_leastTaken_80 : decode cX8_leastTaken 80 = .ok (.iconst (-1), 1) := by decide +kernel
theorem dX8_leastTaken_81 : decode cX8_leastTaken 81 = .ok (.ireturn, 1) := by decide +kernel
theorem dX9_init_0 : decode cX9_init 0 = .ok (.aload_n 0, 1) := by decide +kernel
theorem dX9_init_1 : decode cX9_init 1 = .ok (.invokespecial 1, 3) := by decide +kernel
theorem dX9_init_4 : decode cX9_init 4 = .ok (.aload_n 0, 1) := by decide +kernel
theorem dX9_init_5 : decode cX9_init 5 = .ok (.new 7, 3) := by decide +kernel
theorem dX9_init_8 : decode cX9_init 8 = .ok (.dup, 1) := by decide +kernel
theorem dX9_init_9 : decode cX9_init 9 = .ok (.invokespecial 9, 3) := by decide +kernel
theorem dX9_init_12 : decode cX9_init 12 = .ok (.putfield 10, 3) := by decide +kernel
theorem dX9_init_15 : decode cX9_init 15 = .ok (.aload_n 0, 1) := by decide +kernel
theorem dX9_init_16 : decode cX9_init 16 = .ok (.new 16, 3) := by decide +kernel
theorem dX9_init_19 : decode cX9_init 19 = .ok (.dup, 1) := by decide +kernel
theorem dX9_init_20 : decode cX9_init 20 = .ok (.invokespecial 18, 3) := by decide +kernel
theorem dX9_init_23 : decode cX9_init 23 = .ok (.putfield 19, 3) := by decide +kernel
theorem dX9_init_26 : decode cX9_init 26 = .ok (.aload_n 0, 1) := by decide +kernel
theorem dX9_init_27 : decode cX9_init 27 = .ok (.new 23, 3) := by decide +kernel
theorem dX9_init_30 : decode cX9_init 30 = .ok (.dup, 1) := by decide +kernel
theorem dX9_init_31 : decode cX9_init 31 = .ok (.invokespecial 25, 3) := by decide +kernel
theorem dX9_init_34 : decode cX9_init 34 = .ok (.putfield 26, 3) := by decide +kernel
theorem dX9_init_37 : decode cX9_init 37 = .ok (.aload_n 0, 1) := by decide +kernel
theorem dX9_init_38 : decode cX9_init 38 = .ok (.new 30, 3) := by decide +kernel
theorem dX9_init_41 : decode cX9_init 41 = .ok (.dup, 1) := by decide +kernel
theorem dX9_init_42 : decode cX9_init 42 = .ok (.invokespecial 32, 3) := by decide +kernel
theorem dX9_init_45 : decode cX9_init 45 = .ok (.putfield 33, 3) := by decide +kernel
theorem dX9_init_48 : decode cX9_init 48 = .ok (.aload_n 0, 1) := by decide +kernel
theorem dX9_init_49 : decode cX9_init 49 = .ok (.iconst 2, 1) := by decide +kernel
theorem dX9_init_50 : decode cX9_init 50 = .ok (.anewarray 37, 3) := by decide +kernel
theorem dX9_init_53 : decode cX9_init 53 = .ok (.putfield 39, 3) := by decide +kernel
theorem dX9_init_56 : decode cX9_init 56 = .ok (.aload_n 0, 1) := by decide +kernel
theorem dX9_init_57 : decode cX9_init 57 = .ok (.new 43, 3) := by decide +kernel
theorem dX9_init_60 : decode cX9_init 60 = .ok (.dup, 1) := by decide +kernel
theorem dX9_init_61 : decode cX9_init 61 = .ok (.invokespecial 45, 3) := by decide +kernel
theorem dX9_init_64 : decode cX9_init 64 = .ok (.putfield 46, 3) := by decide +kernel
theorem dX9_init_67 : decode cX9_init 67 = .ok (.aload_n 0, 1) := by decide +kernel
theorem dX9_init_68 : decode cX9_init 68 = .ok (.new 50, 3) := by decide +kernel
theorem dX9_init_71 : decode cX9_init 71 = .ok (.dup, 1) := by decide +kernel
theorem dX9_init_72 : decode cX9_init 72 = .ok (.invokespecial 52, 3) := by decide +kernel
theorem dX9_init_75 : decode cX9_init 75 = .ok (.putfield 53, 3) := by decide +kernel
theorem dX9_init_78 : decode cX9_init 78 = .ok (.aload_n 0, 1) := by decide +kernel
theorem dX9_init_79 : decode cX9_init 79 = .ok (.new 57, 3) := by decide +kernel
theorem dX9_init_82 : decode cX9_init 82 = .ok (.dup, 1) := by decide +kernel
theorem dX9_init_83 : decode cX9_init 83 = .ok (.invokespecial 59, 3) := by decide +kernel
theorem dX9_init_86 : decode cX9_init 86 = .ok (.putfield 60, 3) := by decide +kernel
theorem dX9_init_89 : decode cX9_init 89 = .ok (.aload_n 0, 1) := by decide +kernel
theorem dX9_init_90 : decode cX9_init 90 = .ok (.new 57, 3) := by decide +kernel
theorem dX9_init_93 : decode cX9_init 93 = .ok (.dup, 1) := by decide +kernel
theorem dX9_init_94 : decode cX9_init 94 = .ok (.invokespecial 59, 3) := by decide +kernel
theorem dX9_init_97 : decode cX9_init 97 = .ok (.putfield 64, 3) := by decide +kernel
theorem dX9_init_100 : decode cX9_init 100 = .ok (.iconst 0, 1) := by decide +kernel
theorem dX9_init_101 : decode cX9_init 101 = .ok (.istore_n 1, 1) := by decide +kernel
theorem dX9_init_102 : decode cX9_init 102 = .ok (.iload_n 1, 1) := by decide +kernel
theorem dX9_init_103 : decode cX9_init 103 = .ok (.iconst 2, 1) := by decide +kernel
theorem dX9_init_104 : decode cX9_init 104 = .ok (.if_icmp .ge 22, 3) := by decide +kernel
theorem dX9_init_107 : decode cX9_init 107 = .ok (.aload_n 0, 1) := by decide +kernel
theorem dX9_init_108 : decode cX9_init 108 = .ok (.getfield 39, 3) := by decide +kernel
theorem dX9_init_111 : decode cX9_init 111 = .ok (.iload_n 1, 1) := by decide +kernel
theorem dX9_init_112 : decode cX9_init 112 = .ok (.new 37, 3) := by decide +kernel
theorem dX9_init_115 : decode cX9_init 115 = .ok (.dup, 1) := by decide +kernel
theorem dX9_init_116 : decode cX9_init 116 = .ok (.invokespecial 67, 3) := by decide +kernel
theorem dX9_init_119 : decode cX9_init 119 = .ok (.aastore, 1) := by decide +kernel
theorem dX9_init_120 : decode cX9_init 120 = .ok (.iinc 1 1, 3) := by decide +kernel
theorem dX9_init_123 : decode cX9_init 123 = .ok (.goto (-21), 3) := by decide +kernel
theorem dX9_init_126 : decode cX9_init 126 = .ok (.return_, 1) := by decide +kernel
theorem dX9_feed_0 : decode cX9_feed 0 = .ok (.iload_n 1, 1) := by decide +kernel
theorem dX9_feed_1 : decode cX9_feed 1 = .ok (.ifCond .lt 10, 3) := by decide +kernel
theorem dX9_feed_4 : decode cX9_feed 4 = .ok (.iload_n 1, 1) := by decide +kernel
theorem dX9_feed_5 : decode cX9_feed 5 = .ok (.sipush 255, 3) := by decide +kernel
theorem dX9_feed_8 : decode cX9_feed 8 = .ok (.if_icmp .le 6, 3) := by decide +kernel
theorem dX9_feed_11 : decode cX9_feed 11 = .ok (.ldc 68, 2) := by decide +kernel
theorem dX9_feed_13 : decode cX9_feed 13 = .ok (.ireturn, 1) := by decide +kernel
theorem dX9_feed_14 : decode cX9_feed 14 = .ok (.aload_n 0, 1) := by decide +kernel
theorem dX9_feed_15 : decode cX9_feed 15 = .ok (.getfield 10, 3) := by decide +kernel
theorem dX9_feed_18 : decode cX9_feed 18 = .ok (.getfield 69, 3) := by decide +kernel
theorem dX9_feed_21 : decode cX9_feed 21 = .ok (.sipush 240, 3) := by decide +kernel
theorem dX9_feed_24 : decode cX9_feed 24 = .ok (.if_icmp .lt 6, 3) := by decide +kernel
theorem dX9_feed_27 : decode cX9_feed 27 = .ok (.ldc 73, 2) := by decide +kernel
theorem dX9_feed_29 : decode cX9_feed 29 = .ok (.ireturn, 1) := by decide +kernel
theorem dX9_feed_30 : decode cX9_feed 30 = .ok (.aload_n 0, 1) := by decide +kernel
theorem dX9_feed_31 : decode cX9_feed 31 = .ok (.getfield 10, 3) := by decide +kernel
theorem dX9_feed_34 : decode cX9_feed 34 = .ok (.getfield 74, 3) := by decide +kernel
theorem dX9_feed_37 : decode cX9_feed 37 = .ok (.aload_n 0, 1) := by decide +kernel
theorem dX9_feed_38 : decode cX9_feed 38 = .ok (.getfield 10, 3) := by decide +kernel
theorem dX9_feed_41 : decode cX9_feed 41 = .ok (.getfield 69, 3) := by decide +kernel
theorem dX9_feed_44 : decode cX9_feed 44 = .ok (.iload_n 1, 1) := by decide +kernel
theorem dX9_feed_45 : decode cX9_feed 45 = .ok (.iastore, 1) := by decide +kernel
theorem dX9_feed_46 : decode cX9_feed 46 = .ok (.aload_n 0, 1) := by decide +kernel
theorem dX9_feed_47 : decode cX9_feed 47 = .ok (.getfield 10, 3) := by decide +kernel
theorem dX9_feed_50 : decode cX9_feed 50 = .ok (.dup, 1) := by decide +kernel
theorem dX9_feed_51 : decode cX9_feed 51 = .ok (.getfield 69, 3) := by decide +kernel
theorem dX9_feed_54 : decode cX9_feed 54 = .ok (.iconst 1, 1) := by decide +kernel
theorem dX9_feed_55 : decode cX9_feed 55 = .ok (.iadd, 1) := by decide +kernel
theorem dX9_feed_56 : decode cX9_feed 56 = .ok (.putfield 69, 3) := by decide +kernel
theorem dX9_feed_59 : decode cX9_feed 59 = .ok (.aload_n 0, 1) := by decide +kernel
theorem dX9_feed_60 : decode cX9_feed 60 = .ok (.getfield 10, 3) := by decide +kernel
theorem dX9_feed_63 : decode cX9_feed 63 = .ok (.getfield 69, 3) := by decide +kernel
theorem dX9_feed_66 : decode cX9_feed 66 = .ok (.ireturn, 1) := by decide +kernel
theorem dX9_congress_0 : decode cX9_congress 0 = .ok (.aload_n 0, 1) := by decide +kernel
theorem dX9_congress_1 : decode cX9_congress 1 = .ok (.getfield 10, 3) := by decide +kernel
theorem dX9_congress_4 : decode cX9_congress 4 = .ok (.aload_n 0, 1) := by decide +kernel
theorem dX9_congress_5 : decode cX9_congress 5 = .ok (.getfield 64, 3) := by decide +kernel
theorem dX9_congress_8 : decode cX9_congress 8 = .ok (.invokevirtual 78, 3) := by decide +kernel
theorem dX9_congress_11 : decode cX9_congress 11 = .ok (.ifCond .ne 14, 3) := by decide +kernel
theorem dX9_congress_14 : decode cX9_congress 14 = .ok (.bipush (-10), 2) := by decide +kernel
theorem dX9_congress_16 : decode cX9_congress 16 = .ok (.aload_n 0, 1) := by decide +kernel
theorem dX9_congress_17 : decode cX9_congress 17 = .ok (.getfield 10, 3) := by decide +kernel
theorem dX9_congress_20 : decode cX9_congress 20 = .ok (.getfield 82, 3) := by decide +kernel
theorem dX9_congress_23 : decode cX9_congress 23 = .ok (.isub, 1) := by decide +kernel
theorem dX9_congress_24 : decode cX9_congress 24 = .ok (.ireturn, 1) := by decide +kernel
theorem dX9_congress_25 : decode cX9_congress 25 = .ok (.aload_n 0, 1) := by decide +kernel
theorem dX9_congress_26 : decode cX9_congress 26 = .ok (.getfield 60, 3) := by decide +kernel
theorem dX9_congress_29 : decode cX9_congress 29 = .ok (.astore_n 1, 1) := by decide +kernel
theorem dX9_congress_30 : decode cX9_congress 30 = .ok (.aload_n 0, 1) := by decide +kernel
theorem dX9_congress_31 : decode cX9_congress 31 = .ok (.aload_n 0, 1) := by decide +kernel
theorem dX9_congress_32 : decode cX9_congress 32 = .ok (.getfield 64, 3) := by decide +kernel
theorem dX9_congress_35 : decode cX9_congress 35 = .ok (.putfield 60, 3) := by decide +kernel
theorem dX9_congress_38 : decode cX9_congress 38 = .ok (.aload_n 0, 1) := by decide +kernel
theorem dX9_congress_39 : decode cX9_congress 39 = .ok (.aload_n 1, 1) := by decide +kernel
theorem dX9_congress_40 : decode cX9_congress 40 = .ok (.putfield 64, 3) := by decide +kernel
theorem dX9_congress_43 : decode cX9_congress 43 = .ok (.aload_n 0, 1) := by decide +kernel
theorem dX9_congress_44 : decode cX9_congress 44 = .ok (.getfield 19, 3) := by decide +kernel
theorem dX9_congress_47 : decode cX9_congress 47 = .ok (.aload_n 0, 1) := by decide +kernel
theorem dX9_congress_48 : decode cX9_congress 48 = .ok (.getfield 60, 3) := by decide +kernel
theorem dX9_congress_51 : decode cX9_congress 51 = .ok (.invokevirtual 85, 3) := by decide +kernel
theorem dX9_congress_54 : decode cX9_congress 54 = .ok (.aload_n 0, 1) := by decide +kernel
theorem dX9_congress_55 : decode cX9_congress 55 = .ok (.getfield 26, 3) := by decide +kernel
theorem dX9_congress_58 : decode cX9_congress 58 = .ok (.invokevirtual 89, 3) := by decide +kernel
theorem dX9_congress_61 : decode cX9_congress 61 = .ok (.aload_n 0, 1) := by decide +kernel
theorem dX9_congress_62 : decode cX9_congress 62 = .ok (.getfield 33, 3) := by decide +kernel
theorem dX9_congress_65 : decode cX9_congress 65 = .ok (.iconst 0, 1) := by decide +kernel
theorem dX9_congress_66 : decode cX9_congress 66 = .ok (.putfield 92, 3) := by decide +kernel
theorem dX9_congress_69 : decode cX9_congress 69 = .ok (.iconst 0, 1) := by decide +kernel
theorem dX9_congress_70 : decode cX9_congress 70 = .ok (.istore_n 2, 1) := by decide +kernel
theorem dX9_congress_71 : decode cX9_congress 71 = .ok (.iload_n 2, 1) := by decide +kernel
theorem dX9_congress_72 : decode cX9_congress 72 = .ok (.iconst 2, 1) := by decide +kernel
theorem dX9_congress_73 : decode cX9_congress 73 = .ok (.if_icmp .ge 19, 3) := by decide +kernel
theorem dX9_congress_76 : decode cX9_congress 76 = .ok (.aload_n 0, 1) := by decide +kernel
theorem dX9_congress_77 : decode cX9_congress 77 = .ok (.getfield 39, 3) := by decide +kernel
theorem dX9_congress_80 : decode cX9_congress 80 = .ok (.iload_n 2, 1) := by decide +kernel
theorem dX9_congress_81 : decode cX9_congress 81 = .ok (.aaload, 1) := by decide +kernel
theorem dX9_congress_82 : decode cX9_congress 82 = .ok (.iconst 0, 1) := by decide +kernel
theorem dX9_congress_83 : decode cX9_congress 83 = .ok (.putfield 93, 3) := by decide +kernel
theorem dX9_congress_86 : decode cX9_congress 86 = .ok (.iinc 2 1, 3) := by decide +kernel
theorem dX9_congress_89 : decode cX9_congress 89 = .ok (.goto (-18), 3) := by decide +kernel
theorem dX9_congress_92 : decode cX9_congress 92 = .ok (.aload_n 0, 1) := by decide +kernel
theorem dX9_congress_93 : decode cX9_congress 93 = .ok (.getfield 60, 3) := by decide +kernel
theorem dX9_congress_96 : decode cX9_congress 96 = .ok (.getfield 97, 3) := by decide +kernel
theorem dX9_congress_99 : decode cX9_congress 99 = .ok (.ireturn, 1) := by decide +kernel
theorem dX9_fault_0 : decode cX9_fault 0 = .ok (.aload_n 0, 1) := by decide +kernel
theorem dX9_fault_1 : decode cX9_fault 1 = .ok (.getfield 10, 3) := by decide +kernel
theorem dX9_fault_4 : decode cX9_fault 4 = .ok (.getfield 100, 3) := by decide +kernel
theorem dX9_fault_7 : decode cX9_fault 7 = .ok (.ireturn, 1) := by decide +kernel
theorem dX9_told_0 : decode cX9_told 0 = .ok (.iload_n 1, 1) := by decide +kernel
theorem dX9_told_1 : decode cX9_told 1 = .ok (.tableswitch 258 0 16 #[83, 91, 99, 107, 115, 123, 131, 139, 151, 164, 176, 184, 192, 204, 223, 242, 250], 83) := by decide +kernel
theorem dX9_told_84 : decode cX9_told 84 = .ok (.aload_n 0, 1) := by decide +kernel
theorem dX9_told_85 : decode cX9_told 85 = .ok (.getfield 60, 3) := by decide +kernel
theorem dX9_told_88 : decode cX9_told 88 = .ok (.getfield 103, 3) := by decide +kernel
theorem dX9_told_91 : decode cX9_told 91 = .ok (.ireturn, 1) := by decide +kernel
theorem dX9_told_92 : decode cX9_told 92 = .ok (.aload_n 0, 1) := by decide +kernel
theorem dX9_told_93 : decode cX9_told 93 = .ok (.getfield 60, 3) := by decide +kernel
theorem dX9_told_96 : decode cX9_told 96 = .ok (.getfield 97, 3) := by decide +kernel
theorem dX9_told_99 : decode cX9_told 99 = .ok (.ireturn, 1) := by decide +kernel
theorem dX9_told_100 : decode cX9_told 100 = .ok (.aload_n 0, 1) := by decide +kernel
theorem dX9_told_101 : decode cX9_told 101 = .ok (.getfield 10, 3) := by decide +kernel
theorem dX9_told_104 : decode cX9_told 104 = .ok (.getfield 69, 3) := by decide +kernel
theorem dX9_told_107 : decode cX9_told 107 = .ok (.ireturn, 1) := by decide +kernel
theorem dX9_told_108 : decode cX9_told 108 = .ok (.aload_n 0, 1) := by decide +kernel
theorem dX9_told_109 : decode cX9_told 109 = .ok (.getfield 60, 3) := by decide +kernel
theorem dX9_told_112 : decode cX9_told 112 = .ok (.getfield 106, 3) := by decide +kernel
theorem dX9_told_115 : decode cX9_told 115 = .ok (.ireturn, 1) := by decide +kernel
theorem dX9_told_116 : decode cX9_told 116 = .ok (.aload_n 0, 1) := by decide +kernel
theorem dX9_told_117 : decode cX9_told 117 = .ok (.getfield 60, 3) := by decide +kernel
theorem dX9_told_120 : decode cX9_told 120 = .ok (.getfield 109, 3) := by decide +kernel
theorem dX9_told_123 : decode cX9_told 123 = .ok (.ireturn, 1) := by decide +kernel
theorem dX9_told_124 : decode cX9_told 124 = .ok (.aload_n 0, 1) := by decide +kernel
theorem dX9_told_125 : decode cX9_told 125 = .ok (.getfield 19, 3) := by decide +kernel
theorem dX9_told_128 : decode cX9_told 128 = .ok (.getfield 112, 3) := by decide +kernel
theorem dX9_told_131 : decode cX9_told 131 = .ok (.ireturn, 1) := by decide +kernel
theorem dX9_told_132 : decode cX9_told 132 = .ok (.aload_n 0, 1) := by decide +kernel
theorem dX9_told_133 : decode cX9_told 133 = .ok (.getfield 19, 3) := by decide +kernel
theorem dX9_told_136 : decode cX9_told 136 = .ok (.getfield 115, 3) := by decide +kernel
theorem dX9_told_139 : decode cX9_told 139 = .ok (.ireturn, 1) := by decide +kernel
theorem dX9_told_140 : decode cX9_told 140 = .ok (.aload_n 0, 1) := by decide +kernel
theorem dX9_told_141 : decode cX9_told 141 = .ok (.getfield 19, 3) := by decide +kernel
theorem dX9_told_144 : decode cX9_told 144 = .ok (.aload_n 0, 1) := by decide +kernel
theorem dX9_told_145 : decode cX9_told 145 = .ok (.getfield 60, 3) := by decide +kernel
theorem dX9_told_148 : decode cX9_told 148 = .ok (.invokevirtual 118, 3) := by decide +kernel
theorem dX9_told_151 : decode cX9_told 151 = .ok (.ireturn, 1) := by decide +kernel
theorem dX9_told_152 : decode cX9_told 152 = .ok (.aload_n 0, 1) := by decide +kernel
theorem dX9_told_153 : decode cX9_told 153 = .ok (.getfield 60, 3) := by decide +kernel
theorem dX9_told_156 : decode cX9_told 156 = .ok (.aload_n 0, 1) := by decide +kernel
theorem dX9_told_157 : decode cX9_told 157 = .ok (.getfield 19, 3) := by decide +kernel
theorem dX9_told_160 : decode cX9_told 160 = .ok (.iconst 0, 1) := by decide +kernel
theorem dX9_told_161 : decode cX9_told 161 = .ok (.invokestatic 122, 3) := by decide +kernel
theorem dX9_told_164 : decode cX9_told 164 = .ok (.ireturn, 1) := by decide +kernel
theorem dX9_told_165 : decode cX9_told 165 = .ok (.aload_n 0, 1) := by decide +kernel
theorem dX9_told_166 : decode cX9_told 166 = .ok (.getfield 19, 3) := by decide +kernel
theorem dX9_told_169 : decode cX9_told 169 = .ok (.aload_n 0, 1) := by decide +kernel
theorem dX9_told_170 : decode cX9_told 170 = .ok (.getfield 60, 3) := by decide +kernel
theorem dX9_told_173 : decode cX9_told 173 = .ok (.invokevirtual 128, 3) := by decide +kernel
theorem dX9_told_176 : decode cX9_told 176 = .ok (.ireturn, 1) := by decide +kernel
theorem dX9_told_177 : decode cX9_told 177 = .ok (.aload_n 0, 1) := by decide +kernel
theorem dX9_told_178 : decode cX9_told 178 = .ok (.getfield 19, 3) := by decide +kernel
theorem dX9_told_181 : decode cX9_told 181 = .ok (.getfield 131, 3) := by decide +kernel
theorem dX9_told_184 : decode cX9_told 184 = .ok (.ireturn, 1) := by decide +kernel
theorem dX9_told_185 : decode cX9_told 185 = .ok (.aload_n 0, 1) := by decide +kernel
theorem dX9_told_186 : decode cX9_told 186 = .ok (.getfield 19, 3) := by decide +kernel
theorem dX9_told_189 : decode cX9_told 189 = .ok (.getfield 134, 3) := by decide +kernel
theorem dX9_told_192 : decode cX9_told 192 = .ok (.ireturn, 1) := by decide +kernel
theorem dX9_told_193 : decode cX9_told 193 = .ok (.aload_n 0, 1) := by decide +kernel
theorem dX9_told_194 : decode cX9_told 194 = .ok (.getfield 60, 3) := by decide +kernel
theorem dX9_told_197 : decode cX9_told 197 = .ok (.aload_n 0, 1) := by decide +kernel
theorem dX9_told_198 : decode cX9_told 198 = .ok (.getfield 19, 3) := by decide +kernel
theorem dX9_told_201 : decode cX9_told 201 = .ok (.invokestatic 137, 3) := by decide +kernel
theorem dX9_told_204 : decode cX9_told 204 = .ok (.ireturn, 1) := by decide +kernel
theorem dX9_told_205 : decode cX9_told 205 = .ok (.aload_n 0, 1) := by decide +kernel
theorem dX9_told_206 : decode cX9_told 206 = .ok (.invokevirtual 141, 3) := by decide +kernel
theorem dX9_told_209 : decode cX9_told 209 = .ok (.ifCond .eq 13, 3) := by decide +kernel
theorem dX9_told_212 : decode cX9_told 212 = .ok (.aload_n 0, 1) := by decide +kernel
theorem dX9_told_213 : decode cX9_told 213 = .ok (.getfield 60, 3) := by decide +kernel
theorem dX9_told_216 : decode cX9_told 216 = .ok (.invokevirtual 145, 3) := by decide +kernel
theorem dX9_told_219 : decode cX9_told 219 = .ok (.goto 4, 3) := by decide +kernel
theorem dX9_told_222 : decode cX9_told 222 = .ok (.iconst (-1), 1) := by decide +kernel
theorem dX9_told_223 : decode cX9_told 223 = .ok (.ireturn, 1) := by decide +kernel
theorem dX9_told_224 : decode cX9_told 224 = .ok (.aload_n 0, 1) := by decide +kernel
theorem dX9_told_225 : decode cX9_told 225 = .ok (.invokevirtual 141, 3) := by decide +kernel
theorem dX9_told_228 : decode cX9_told 228 = .ok (.ifCond .eq 13, 3) := by decide +kernel
theorem dX9_told_231 : decode cX9_told 231 = .ok (.aload_n 0, 1) := by decide +kernel
theorem dX9_told_232 : decode cX9_told 232 = .ok (.getfield 60, 3) := by decide +kernel
theorem dX9_told_235 : decode cX9_told 235 = .ok (.invokevirtual 149, 3) := by decide +kernel
theorem dX9_told_238 : decode cX9_told 238 = .ok (.goto 4, 3) := by decide +kernel
theorem dX9_told_241 : decode cX9_told 241 = .ok (.iconst (-1), 1) := by decide +kernel
theorem dX9_told_242 : decode cX9_told 242 = .ok (.ireturn, 1) := by decide +kernel
theorem dX9_told_243 : decode cX9_told 243 = .ok (.aload_n 0, 1) := by decide +kernel
theorem dX9_told_244 : decode cX9_told 244 = .ok (.getfield 33, 3) := by decide +kernel
theorem dX9_told_247 : decode cX9_told 247 = .ok (.getfield 92, 3) := by decide +kernel
theorem dX9_told_250 : decode cX9_told 250 = .ok (.ireturn, 1) := by decide +kernel
theorem dX9_told_251 : decode cX9_told 251 = .ok (.aload_n 0, 1) := by decide +kernel
theorem dX9_told_252 : decode cX9_told 252 = .ok (.getfield 26, 3) := by decide +kernel
theorem dX9_told_255 : decode cX9_told 255 = .ok (.getfield 152, 3) := by decide +kernel
theorem dX9_told_258 : decode cX9_told 258 = .ok (.ireturn, 1) := by decide +kernel
theorem dX9_told_259 : decode cX9_told 259 = .ok (.ldc 68, 2) := by decide +kernel
theorem dX9_told_261 : decode cX9_told 261 = .ok (.ireturn, 1) := by decide +kernel
theorem dX9_doll_0 : decode cX9_doll 0 = .ok (.aload_n 0, 1) := by decide +kernel
theorem dX9_doll_1 : decode cX9_doll 1 = .ok (.getfield 60, 3) := by decide +kernel
theorem dX9_doll_4 : decode cX9_doll 4 = .ok (.iload_n 1, 1) := by decide +kernel
theorem dX9_doll_5 : decode cX9_doll 5 = .ok (.invokevirtual 153, 3) := by decide +kernel
theorem dX9_doll_8 : decode cX9_doll 8 = .ok (.ifCond .ne 6, 3) := by decide +kernel
theorem dX9_doll_11 : decode cX9_doll 11 = .ok (.ldc 157, 2) := by decide +kernel
theorem dX9_doll_13 : decode cX9_doll 13 = .ok (.ireturn, 1) := by decide +kernel
theorem dX9_doll_14 : decode cX9_doll 14 = .ok (.iload_n 2, 1) := by decide +kernel
theorem dX9_doll_15 : decode cX9_doll 15 = .ok (.tableswitch 118 0 6 #[41, 51, 61, 71, 81, 91, 108], 41) := by decide +kernel
theorem dX9_doll_56 : decode cX9_doll 56 = .ok (.aload_n 0, 1) := by decide +kernel
theorem dX9_doll_57 : decode cX9_doll 57 = .ok (.getfield 60, 3) := by decide +kernel
theorem dX9_doll_60 : decode cX9_doll 60 = .ok (.getfield 158, 3) := by decide +kernel
theorem dX9_doll_63 : decode cX9_doll 63 = .ok (.iload_n 1, 1) := by decide +kernel
theorem dX9_doll_64 : decode cX9_doll 64 = .ok (.iaload, 1) := by decide +kernel
theorem dX9_doll_65 : decode cX9_doll 65 = .ok (.ireturn, 1) := by decide +kernel
theorem dX9_doll_66 : decode cX9_doll 66 = .ok (.aload_n 0, 1) := by decide +kernel
theorem dX9_doll_67 : decode cX9_doll 67 = .ok (.getfield 60, 3) := by decide +kernel
theorem dX9_doll_70 : decode cX9_doll 70 = .ok (.getfield 161, 3) := by decide +kernel
theorem dX9_doll_73 : decode cX9_doll 73 = .ok (.iload_n 1, 1) := by decide +kernel
theorem dX9_doll_74 : decode cX9_doll 74 = .ok (.iaload, 1) := by decide +kernel
theorem dX9_doll_75 : decode cX9_doll 75 = .ok (.ireturn, 1) := by decide +kernel
theorem dX9_doll_76 : decode cX9_doll 76 = .ok (.aload_n 0, 1) := by decide +kernel
theorem dX9_doll_77 : decode cX9_doll 77 = .ok (.getfield 19, 3) := by decide +kernel
theorem dX9_doll_80 : decode cX9_doll 80 = .ok (.getfield 164, 3) := by decide +kernel
theorem dX9_doll_83 : decode cX9_doll 83 = .ok (.iload_n 1, 1) := by decide +kernel
theorem dX9_doll_84 : decode cX9_doll 84 = .ok (.iaload, 1) := by decide +kernel
theorem dX9_doll_85 : decode cX9_doll 85 = .ok (.ireturn, 1) := by decide +kernel
theorem dX9_doll_86 : decode cX9_doll 86 = .ok (.aload_n 0, 1) := by decide +kernel
theorem dX9_doll_87 : decode cX9_doll 87 = .ok (.getfield 19, 3) := by decide +kernel
theorem dX9_doll_90 : decode cX9_doll 90 = .ok (.getfield 167, 3) := by decide +kernel
theorem dX9_doll_93 : decode cX9_doll 93 = .ok (.iload_n 1, 1) := by decide +kernel
theorem dX9_doll_94 : decode cX9_doll 94 = .ok (.iaload, 1) := by decide +kernel
theorem dX9_doll_95 : decode cX9_doll 95 = .ok (.ireturn, 1) := by decide +kernel
theorem dX9_doll_96 : decode cX9_doll 96 = .ok (.aload_n 0, 1) := by decide +kernel
theorem dX9_doll_97 : decode cX9_doll 97 = .ok (.getfield 19, 3) := by decide +kernel
theorem dX9_doll_100 : decode cX9_doll 100 = .ok (.getfield 170, 3) := by decide +kernel
theorem dX9_doll_103 : decode cX9_doll 103 = .ok (.iload_n 1, 1) := by decide +kernel
theorem dX9_doll_104 : decode cX9_doll 104 = .ok (.iaload, 1) := by decide +kernel
theorem dX9_doll_105 : decode cX9_doll 105 = .ok (.ireturn, 1) := by decide +kernel
theorem dX9_doll_106 : decode cX9_doll 106 = .ok (.aload_n 0, 1) := by decide +kernel
theorem dX9_doll_107 : decode cX9_doll 107 = .ok (.getfield 19, 3) := by decide +kernel
theorem dX9_doll_110 : decode cX9_doll 110 = .ok (.iload_n 1, 1) := by decide +kernel
theorem dX9_doll_111 : decode cX9_doll 111 = .ok (.invokevirtual 173, 3) := by decide +kernel
theorem dX9_doll_114 : decode cX9_doll 114 = .ok (.ifCond .eq 7, 3) := by decide +kernel
theorem dX9_doll_117 : decode cX9_doll 117 = .ok (.iconst 1, 1) := by decide +kernel
theorem dX9_doll_118 : decode cX9_doll 118 = .ok (.goto 4, 3) := by decide +kernel
theorem dX9_doll_121 : decode cX9_doll 121 = .ok (.iconst 0, 1) := by decide +kernel
theorem dX9_doll_122 : decode cX9_doll 122 = .ok (.ireturn, 1) := by decide +kernel
theorem dX9_doll_123 : decode cX9_doll 123 = .ok (.aload_n 0, 1) := by decide +kernel
theorem dX9_doll_124 : decode cX9_doll 124 = .ok (.getfield 19, 3) := by decide +kernel
theorem dX9_doll_127 : decode cX9_doll 127 = .ok (.getfield 176, 3) := by decide +kernel
theorem dX9_doll_130 : decode cX9_doll 130 = .ok (.iload_n 1, 1) := by decide +kernel
theorem dX9_doll_131 : decode cX9_doll 131 = .ok (.iaload, 1) := by decide +kernel
theorem dX9_doll_132 : decode cX9_doll 132 = .ok (.ireturn, 1) := by decide +kernel
theorem dX9_doll_133 : decode cX9_doll 133 = .ok (.ldc 68, 2) := by decide +kernel
theorem dX9_doll_135 : decode cX9_doll 135 = .ok (.ireturn, 1) := by decide +kernel
theorem dX9_court_0 : decode cX9_court 0 = .ok (.aload_n 0, 1) := by decide +kernel
theorem dX9_court_1 : decode cX9_court 1 = .ok (.getfield 60, 3) := by decide +kernel
theorem dX9_court_4 : decode cX9_court 4 = .ok (.iload_n 1, 1) := by decide +kernel
theorem dX9_court_5 : decode cX9_court 5 = .ok (.invokevirtual 179, 3) := by decide +kernel
theorem dX9_court_8 : decode cX9_court 8 = .ok (.ifCond .ne 6, 3) := by decide +kernel
theorem dX9_court_11 : decode cX9_court 11 = .ok (.ldc 157, 2) := by decide +kernel
theorem dX9_court_13 : decode cX9_court 13 = .ok (.ireturn, 1) := by decide +kernel
theorem dX9_court_14 : decode cX9_court 14 = .ok (.iload_n 2, 1) := by decide +kernel
theorem dX9_court_15 : decode cX9_court 15 = .ok (.tableswitch 94 0 4 #[33, 43, 56, 69, 85], 33) := by decide +kernel
theorem dX9_court_48 : decode cX9_court 48 = .ok (.aload_n 0, 1) := by decide +kernel
theorem dX9_court_49 : decode cX9_court 49 = .ok (.getfield 60, 3) := by decide +kernel
theorem dX9_court_52 : decode cX9_court 52 = .ok (.getfield 182, 3) := by decide +kernel
theorem dX9_court_55 : decode cX9_court 55 = .ok (.iload_n 1, 1) := by decide +kernel
theorem dX9_court_56 : decode cX9_court 56 = .ok (.iaload, 1) := by decide +kernel
theorem dX9_court_57 : decode cX9_court 57 = .ok (.ireturn, 1) := by decide +kernel
theorem dX9_court_58 : decode cX9_court 58 = .ok (.aload_n 0, 1) := by decide +kernel
theorem dX9_court_59 : decode cX9_court 59 = .ok (.aload_n 0, 1) := by decide +kernel
theorem dX9_court_60 : decode cX9_court 60 = .ok (.getfield 19, 3) := by decide +kernel
theorem dX9_court_63 : decode cX9_court 63 = .ok (.getfield 164, 3) := by decide +kernel
theorem dX9_court_66 : decode cX9_court 66 = .ok (.iload_n 1, 1) := by decide +kernel
theorem dX9_court_67 : decode cX9_court 67 = .ok (.invokevirtual 185, 3) := by decide +kernel
theorem dX9_court_70 : decode cX9_court 70 = .ok (.ireturn, 1) := by decide +kernel
theorem dX9_court_71 : decode cX9_court 71 = .ok (.aload_n 0, 1) := by decide +kernel
theorem dX9_court_72 : decode cX9_court 72 = .ok (.aload_n 0, 1) := by decide +kernel
theorem dX9_court_73 : decode cX9_court 73 = .ok (.getfield 60, 3) := by decide +kernel
theorem dX9_court_76 : decode cX9_court 76 = .ok (.getfield 161, 3) := by decide +kernel
theorem dX9_court_79 : decode cX9_court 79 = .ok (.iload_n 1, 1) := by decide +kernel
theorem dX9_court_80 : decode cX9_court 80 = .ok (.invokevirtual 185, 3) := by decide +kernel
theorem dX9_court_83 : decode cX9_court 83 = .ok (.ireturn, 1) := by decide +kernel
theorem dX9_court_84 : decode cX9_court 84 = .ok (.aload_n 0, 1) := by decide +kernel
theorem dX9_court_85 : decode cX9_court 85 = .ok (.getfield 19, 3) := by decide +kernel
theorem dX9_court_88 : decode cX9_court 88 = .ok (.aload_n 0, 1) := by decide +kernel
theorem dX9_court_89 : decode cX9_court 89 = .ok (.getfield 60, 3) := by decide +kernel
theorem dX9_court_92 : decode cX9_court 92 = .ok (.invokevirtual 128, 3) := by decide +kernel
theorem dX9_court_95 : decode cX9_court 95 = .ok (.iload_n 1, 1) := by decide +kernel
theorem dX9_court_96 : decode cX9_court 96 = .ok (.ishr, 1) := by decide +kernel
theorem dX9_court_97 : decode cX9_court 97 = .ok (.iconst 1, 1) := by decide +kernel
theorem dX9_court_98 : decode cX9_court 98 = .ok (.iand, 1) := by decide +kernel
theorem dX9_court_99 : decode cX9_court 99 = .ok (.ireturn, 1) := by decide +kernel
theorem dX9_court_100 : decode cX9_court 100 = .ok (.aload_n 0, 1) := by decide +kernel
theorem dX9_court_101 : decode cX9_court 101 = .ok (.getfield 60, 3) := by decide +kernel
theorem dX9_court_104 : decode cX9_court 104 = .ok (.iload_n 1, 1) := by decide +kernel
theorem dX9_court_105 : decode cX9_court 105 = .ok (.invokevirtual 189, 3) := by decide +kernel
theorem dX9_court_108 : decode cX9_court 108 = .ok (.ireturn, 1) := by decide +kernel
theorem dX9_court_109 : decode cX9_court 109 = .ok (.ldc 68, 2) := by decide +kernel
theorem dX9_court_111 : decode cX9_court 111 = .ok (.ireturn, 1) := by decide +kernel
theorem dX9_post_0 : decode cX9_post 0 = .ok (.aload_n 0, 1) := by decide +kernel
theorem dX9_post_1 : decode cX9_post 1 = .ok (.getfield 60, 3) := by decide +kernel
theorem dX9_post_4 : decode cX9_post 4 = .ok (.iload_n 1, 1) := by decide +kernel
theorem dX9_post_5 : decode cX9_post 5 = .ok (.invokevirtual 153, 3) := by decide +kernel
theorem dX9_post_8 : decode cX9_post 8 = .ok (.ifCond .eq 14, 3) := by decide +kernel
theorem dX9_post_11 : decode cX9_post 11 = .ok (.aload_n 0, 1) := by decide +kernel
theorem dX9_post_12 : decode cX9_post 12 = .ok (.getfield 60, 3) := by decide +kernel
theorem dX9_post_15 : decode cX9_post 15 = .ok (.iload_n 2, 1) := by decide +kernel
theorem dX9_post_16 : decode cX9_post 16 = .ok (.invokevirtual 179, 3) := by decide +kernel
theorem dX9_post_19 : decode cX9_post 19 = .ok (.ifCond .ne 6, 3) := by decide +kernel
theorem dX9_post_22 : decode cX9_post 22 = .ok (.ldc 157, 2) := by decide +kernel
theorem dX9_post_24 : decode cX9_post 24 = .ok (.ireturn, 1) := by decide +kernel
theorem dX9_post_25 : decode cX9_post 25 = .ok (.aload_n 0, 1) := by decide +kernel
theorem dX9_post_26 : decode cX9_post 26 = .ok (.getfield 19, 3) := by decide +kernel
theorem dX9_post_29 : decode cX9_post 29 = .ok (.getfield 164, 3) := by decide +kernel
theorem dX9_post_32 : decode cX9_post 32 = .ok (.iload_n 1, 1) := by decide +kernel
theorem dX9_post_33 : decode cX9_post 33 = .ok (.iaload, 1) := by decide +kernel
theorem dX9_post_34 : decode cX9_post 34 = .ok (.iload_n 2, 1) := by decide +kernel
theorem dX9_post_35 : decode cX9_post 35 = .ok (.if_icmp .ne 6, 3) := by decide +kernel
theorem dX9_post_38 : decode cX9_post 38 = .ok (.ldc 193, 2) := by decide +kernel
theorem dX9_post_40 : decode cX9_post 40 = .ok (.ireturn, 1) := by decide +kernel
theorem dX9_post_41 : decode cX9_post 41 = .ok (.aload_n 0, 1) := by decide +kernel
theorem dX9_post_42 : decode cX9_post 42 = .ok (.getfield 26, 3) := by decide +kernel
theorem dX9_post_45 : decode cX9_post 45 = .ok (.aload_n 0, 1) := by decide +kernel
theorem dX9_post_46 : decode cX9_post 46 = .ok (.getfield 19, 3) := by decide +kernel
theorem dX9_post_49 : decode cX9_post 49 = .ok (.invokevirtual 194, 3) := by decide +kernel
theorem dX9_post_52 : decode cX9_post 52 = .ok (.aload_n 0, 1) := by decide +kernel
theorem dX9_post_53 : decode cX9_post 53 = .ok (.getfield 19, 3) := by decide +kernel
theorem dX9_post_56 : decode cX9_post 56 = .ok (.getfield 164, 3) := by decide +kernel
theorem dX9_post_59 : decode cX9_post 59 = .ok (.iload_n 1, 1) := by decide +kernel
theorem dX9_post_60 : decode cX9_post 60 = .ok (.iaload, 1) := by decide +kernel
theorem dX9_post_61 : decode cX9_post 61 = .ok (.istore_n 3, 1) := by decide +kernel
theorem dX9_post_62 : decode cX9_post 62 = .ok (.aload_n 0, 1) := by decide +kernel
theorem dX9_post_63 : decode cX9_post 63 = .ok (.getfield 19, 3) := by decide +kernel
theorem dX9_post_66 : decode cX9_post 66 = .ok (.iload_n 1, 1) := by decide +kernel
theorem dX9_post_67 : decode cX9_post 67 = .ok (.iload_n 2, 1) := by decide +kernel
theorem dX9_post_68 : decode cX9_post 68 = .ok (.invokevirtual 198, 3) := by decide +kernel
theorem dX9_post_71 : decode cX9_post 71 = .ok (.iload_n 3, 1) := by decide +kernel
theorem dX9_post_72 : decode cX9_post 72 = .ok (.ireturn, 1) := by decide +kernel
theorem dX9_mix_0 : decode cX9_mix 0 = .ok (.aload_n 0, 1) := by decide +kernel
theorem dX9_mix_1 : decode cX9_mix 1 = .ok (.getfield 60, 3) := by decide +kernel
theorem dX9_mix_4 : decode cX9_mix 4 = .ok (.iload_n 1, 1) := by decide +kernel
theorem dX9_mix_5 : decode cX9_mix 5 = .ok (.invokevirtual 153, 3) := by decide +kernel
theorem dX9_mix_8 : decode cX9_mix 8 = .ok (.ifCond .eq 19, 3) := by decide +kernel
theorem dX9_mix_11 : decode cX9_mix 11 = .ok (.aload_n 0, 1) := by decide +kernel
theorem dX9_mix_12 : decode cX9_mix 12 = .ok (.getfield 60, 3) := by decide +kernel
theorem dX9_mix_15 : decode cX9_mix 15 = .ok (.iload_n 2, 1) := by decide +kernel
theorem dX9_mix_16 : decode cX9_mix 16 = .ok (.invokevirtual 153, 3) := by decide +kernel
theorem dX9_mix_19 : decode cX9_mix 19 = .ok (.ifCond .eq 8, 3) := by decide +kernel
theorem dX9_mix_22 : decode cX9_mix 22 = .ok (.iload_n 1, 1) := by decide +kernel
theorem dX9_mix_23 : decode cX9_mix 23 = .ok (.iload_n 2, 1) := by decide +kernel
theorem dX9_mix_24 : decode cX9_mix 24 = .ok (.if_icmp .ne 6, 3) := by decide +kernel
theorem dX9_mix_27 : decode cX9_mix 27 = .ok (.ldc 157, 2) := by decide +kernel
theorem dX9_mix_29 : decode cX9_mix 29 = .ok (.ireturn, 1) := by decide +kernel
theorem dX9_mix_30 : decode cX9_mix 30 = .ok (.aload_n 0, 1) := by decide +kernel
theorem dX9_mix_31 : decode cX9_mix 31 = .ok (.getfield 26, 3) := by decide +kernel
theorem dX9_mix_34 : decode cX9_mix 34 = .ok (.aload_n 0, 1) := by decide +kernel
theorem dX9_mix_35 : decode cX9_mix 35 = .ok (.getfield 19, 3) := by decide +kernel
theorem dX9_mix_38 : decode cX9_mix 38 = .ok (.invokevirtual 194, 3) := by decide +kernel
theorem dX9_mix_41 : decode cX9_mix 41 = .ok (.aload_n 0, 1) := by decide +kernel
theorem dX9_mix_42 : decode cX9_mix 42 = .ok (.getfield 19, 3) := by decide +kernel
theorem dX9_mix_45 : decode cX9_mix 45 = .ok (.iload_n 1, 1) := by decide +kernel
theorem dX9_mix_46 : decode cX9_mix 46 = .ok (.iload_n 2, 1) := by decide +kernel
theorem dX9_mix_47 : decode cX9_mix 47 = .ok (.invokevirtual 202, 3) := by decide +kernel
theorem dX9_mix_50 : decode cX9_mix 50 = .ok (.aload_n 0, 1) := by decide +kernel
theorem dX9_mix_51 : decode cX9_mix 51 = .ok (.getfield 19, 3) := by decide +kernel
theorem dX9_mix_54 : decode cX9_mix 54 = .ok (.getfield 164, 3) := by decide +kernel
theorem dX9_mix_57 : decode cX9_mix 57 = .ok (.iload_n 1, 1) := by decide +kernel
theorem dX9_mix_58 : decode cX9_mix 58 = .ok (.iaload, 1) := by decide +kernel
theorem dX9_mix_59 : decode cX9_mix 59 = .ok (.ireturn, 1) := by decide +kernel
theorem dX9_lay_0 : decode cX9_lay 0 = .ok (.aload_n 0, 1) := by decide +kernel
theorem dX9_lay_1 : decode cX9_lay 1 = .ok (.getfield 60, 3) := by decide +kernel
theorem dX9_lay_4 : decode cX9_lay 4 = .ok (.iload_n 1, 1) := by decide +kernel
theorem dX9_lay_5 : decode cX9_lay 5 = .ok (.invokevirtual 153, 3) := by decide +kernel
theorem dX9_lay_8 : decode cX9_lay 8 = .ok (.ifCond .ne 6, 3) := by decide +kernel
theorem dX9_lay_11 : decode cX9_lay 11 = .ok (.ldc 157, 2) := by decide +kernel
theorem dX9_lay_13 : decode cX9_lay 13 = .ok (.ireturn, 1) := by decide +kernel
theorem dX9_lay_14 : decode cX9_lay 14 = .ok (.aload_n 0, 1) := by decide +kernel
theorem dX9_lay_15 : decode cX9_lay 15 = .ok (.getfield 26, 3) := by decide +kernel
theorem dX9_lay_18 : decode cX9_lay 18 = .ok (.aload_n 0, 1) := by decide +kernel
theorem dX9_lay_19 : decode cX9_lay 19 = .ok (.getfield 19, 3) := by decide +kernel
theorem dX9_lay_22 : decode cX9_lay 22 = .ok (.invokevirtual 194, 3) := by decide +kernel
theorem dX9_lay_25 : decode cX9_lay 25 = .ok (.aload_n 0, 1) := by decide +kernel
theorem dX9_lay_26 : decode cX9_lay 26 = .ok (.getfield 19, 3) := by decide +kernel
theorem dX9_lay_29 : decode cX9_lay 29 = .ok (.iload_n 1, 1) := by decide +kernel
theorem dX9_lay_30 : decode cX9_lay 30 = .ok (.invokevirtual 173, 3) := by decide +kernel
theorem dX9_lay_33 : decode cX9_lay 33 = .ok (.ifCond .eq 7, 3) := by decide +kernel
theorem dX9_lay_36 : decode cX9_lay 36 = .ok (.iconst 0, 1) := by decide +kernel
theorem dX9_lay_37 : decode cX9_lay 37 = .ok (.goto 4, 3) := by decide +kernel
theorem dX9_lay_40 : decode cX9_lay 40 = .ok (.iconst 1, 1) := by decide +kernel
theorem dX9_lay_41 : decode cX9_lay 41 = .ok (.istore_n 3, 1) := by decide +kernel
theorem dX9_lay_42 : decode cX9_lay 42 = .ok (.iload_n 2, 1) := by decide +kernel
theorem dX9_lay_43 : decode cX9_lay 43 = .ok (.ifCond .eq 14, 3) := by decide +kernel
theorem dX9_lay_46 : decode cX9_lay 46 = .ok (.aload_n 0, 1) := by decide +kernel
theorem dX9_lay_47 : decode cX9_lay 47 = .ok (.getfield 19, 3) := by decide +kernel
theorem dX9_lay_50 : decode cX9_lay 50 = .ok (.iload_n 1, 1) := by decide +kernel
theorem dX9_lay_51 : decode cX9_lay 51 = .ok (.invokevirtual 205, 3) := by decide +kernel
theorem dX9_lay_54 : decode cX9_lay 54 = .ok (.goto 11, 3) := by decide +kernel
theorem dX9_lay_57 : decode cX9_lay 57 = .ok (.aload_n 0, 1) := by decide +kernel
theorem dX9_lay_58 : decode cX9_lay 58 = .ok (.getfield 19, 3) := by decide +kernel
theorem dX9_lay_61 : decode cX9_lay 61 = .ok (.iload_n 1, 1) := by decide +kernel
theorem dX9_lay_62 : decode cX9_lay 62 = .ok (.invokevirtual 209, 3) := by decide +kernel
theorem dX9_lay_65 : decode cX9_lay 65 = .ok (.iload_n 3, 1) := by decide +kernel
theorem dX9_lay_66 : decode cX9_lay 66 = .ok (.ireturn, 1) := by decide +kernel
theorem dX9_mask_0 : decode cX9_mask 0 = .ok (.aload_n 0, 1) := by decide +kernel
theorem dX9_mask_1 : decode cX9_mask 1 = .ok (.getfield 60, 3) := by decide +kernel
theorem dX9_mask_4 : decode cX9_mask 4 = .ok (.iload_n 1, 1) := by decide +kernel
theorem dX9_mask_5 : decode cX9_mask 5 = .ok (.invokevirtual 153, 3) := by decide +kernel
theorem dX9_mask_8 : decode cX9_mask 8 = .ok (.ifCond .ne 6, 3) := by decide +kernel
theorem dX9_mask_11 : decode cX9_mask 11 = .ok (.ldc 157, 2) := by decide +kernel
theorem dX9_mask_13 : decode cX9_mask 13 = .ok (.ireturn, 1) := by decide +kernel
theorem dX9_mask_14 : decode cX9_mask 14 = .ok (.iload_n 2, 1) := by decide +kernel
theorem dX9_mask_15 : decode cX9_mask 15 = .ok (.ifCond .lt 9, 3) := by decide +kernel
theorem dX9_mask_18 : decode cX9_mask 18 = .ok (.iload_n 2, 1) := by decide +kernel
theorem dX9_mask_19 : decode cX9_mask 19 = .ok (.bipush 63, 2) := by decide +kernel
theorem dX9_mask_21 : decode cX9_mask 21 = .ok (.if_icmp .le 6, 3) := by decide +kernel
theorem dX9_mask_24 : decode cX9_mask 24 = .ok (.ldc 68, 2) := by decide +kernel
theorem dX9_mask_26 : decode cX9_mask 26 = .ok (.ireturn, 1) := by decide +kernel
theorem dX9_mask_27 : decode cX9_mask 27 = .ok (.aload_n 0, 1) := by decide +kernel
theorem dX9_mask_28 : decode cX9_mask 28 = .ok (.getfield 26, 3) := by decide +kernel
theorem dX9_mask_31 : decode cX9_mask 31 = .ok (.aload_n 0, 1) := by decide +kernel
theorem dX9_mask_32 : decode cX9_mask 32 = .ok (.getfield 19, 3) := by decide +kernel
theorem dX9_mask_35 : decode cX9_mask 35 = .ok (.invokevirtual 194, 3) := by decide +kernel
theorem dX9_mask_38 : decode cX9_mask 38 = .ok (.aload_n 0, 1) := by decide +kernel
theorem dX9_mask_39 : decode cX9_mask 39 = .ok (.getfield 19, 3) := by decide +kernel
theorem dX9_mask_42 : decode cX9_mask 42 = .ok (.getfield 167, 3) := by decide +kernel
theorem dX9_mask_45 : decode cX9_mask 45 = .ok (.iload_n 1, 1) := by decide +kernel
theorem dX9_mask_46 : decode cX9_mask 46 = .ok (.iaload, 1) := by decide +kernel
theorem dX9_mask_47 : decode cX9_mask 47 = .ok (.istore_n 3, 1) := by decide +kernel
theorem dX9_mask_48 : decode cX9_mask 48 = .ok (.aload_n 0, 1) := by decide +kernel
theorem dX9_mask_49 : decode cX9_mask 49 = .ok (.getfield 19, 3) := by decide +kernel
theorem dX9_mask_52 : decode cX9_mask 52 = .ok (.getfield 167, 3) := by decide +kernel
theorem dX9_mask_55 : decode cX9_mask 55 = .ok (.iload_n 1, 1) := by decide +kernel
theorem dX9_mask_56 : decode cX9_mask 56 = .ok (.iload_n 2, 1) := by decide +kernel
theorem dX9_mask_57 : decode cX9_mask 57 = .ok (.iastore, 1) := by decide +kernel
theorem dX9_mask_58 : decode cX9_mask 58 = .ok (.iload_n 3, 1) := by decide +kernel
theorem dX9_mask_59 : decode cX9_mask 59 = .ok (.ireturn, 1) := by decide +kernel
theorem dX9_audience_0 : decode cX9_audience 0 = .ok (.aload_n 0, 1) := by decide +kernel
theorem dX9_audience_1 : decode cX9_audience 1 = .ok (.invokevirtual 141, 3) := by decide +kernel
theorem dX9_audience_4 : decode cX9_audience 4 = .ok (.ifCond .ne 6, 3) := by decide +kernel
theorem dX9_audience_7 : decode cX9_audience 7 = .ok (.ldc 193, 2) := by decide +kernel
theorem dX9_audience_9 : decode cX9_audience 9 = .ok (.ireturn, 1) := by decide +kernel
theorem dX9_audience_10 : decode cX9_audience 10 = .ok (.aload_n 0, 1) := by decide +kernel
theorem dX9_audience_11 : decode cX9_audience 11 = .ok (.getfield 26, 3) := by decide +kernel
theorem dX9_audience_14 : decode cX9_audience 14 = .ok (.aload_n 0, 1) := by decide +kernel
theorem dX9_audience_15 : decode cX9_audience 15 = .ok (.getfield 19, 3) := by decide +kernel
theorem dX9_audience_18 : decode cX9_audience 18 = .ok (.invokevirtual 194, 3) := by decide +kernel
theorem dX9_audience_21 : decode cX9_audience 21 = .ok (.aload_n 0, 1) := by decide +kernel
theorem dX9_audience_22 : decode cX9_audience 22 = .ok (.getfield 19, 3) := by decide +kernel
theorem dX9_audience_25 : decode cX9_audience 25 = .ok (.aload_n 0, 1) := by decide +kernel
theorem dX9_audience_26 : decode cX9_audience 26 = .ok (.getfield 60, 3) := by decide +kernel
theorem dX9_audience_29 : decode cX9_audience 29 = .ok (.invokevirtual 212, 3) := by decide +kernel
theorem dX9_audience_32 : decode cX9_audience 32 = .ok (.ifCond .eq 7, 3) := by decide +kernel
theorem dX9_audience_35 : decode cX9_audience 35 = .ok (.iconst 1, 1) := by decide +kernel
theorem dX9_audience_36 : decode cX9_audience 36 = .ok (.goto 4, 3) := by decide +kernel
theorem dX9_audience_39 : decode cX9_audience 39 = .ok (.iconst 0, 1) := by decide +kernel
theorem dX9_audience_40 : decode cX9_audience 40 = .ok (.ireturn, 1) := by decide +kernel
theorem dX9_year_0 : decode cX9_year 0 = .ok (.aload_n 0, 1) := by decide +kernel
theorem dX9_year_1 : decode cX9_year 1 = .ok (.iload_n 1, 1) := by decide +kernel
theorem dX9_year_2 : decode cX9_year 2 = .ok (.invokevirtual 215, 3) := by decide +kernel
theorem dX9_year_5 : decode cX9_year 5 = .ok (.istore_n 2, 1) := by decide +kernel
theorem dX9_year_6 : decode cX9_year 6 = .ok (.iload_n 2, 1) := by decide +kernel
theorem dX9_year_7 : decode cX9_year 7 = .ok (.ifCond .eq 5, 3) := by decide +kernel
theorem dX9_year_10 : decode cX9_year 10 = .ok (.iload_n 2, 1) := by decide +kernel
theorem dX9_year_11 : decode cX9_year 11 = .ok (.ireturn, 1) := by decide +kernel
theorem dX9_year_12 : decode cX9_year 12 = .ok (.aload_n 0, 1) := by decide +kernel
theorem dX9_year_13 : decode cX9_year 13 = .ok (.getfield 26, 3) := by decide +kernel
theorem dX9_year_16 : decode cX9_year 16 = .ok (.aload_n 0, 1) := by decide +kernel
theorem dX9_year_17 : decode cX9_year 17 = .ok (.getfield 19, 3) := by decide +kernel
theorem dX9_year_20 : decode cX9_year 20 = .ok (.invokevirtual 194, 3) := by decide +kernel
theorem dX9_year_23 : decode cX9_year 23 = .ok (.iconst 0, 1) := by decide +kernel
theorem dX9_year_24 : decode cX9_year 24 = .ok (.istore_n 3, 1) := by decide +kernel
theorem dX9_year_25 : decode cX9_year 25 = .ok (.iload_n 3, 1) := by decide +kernel
theorem dX9_year_26 : decode cX9_year 26 = .ok (.iload_n 1, 1) := by decide +kernel
theorem dX9_year_27 : decode cX9_year 27 = .ok (.if_icmp .ge 20, 3) := by decide +kernel
theorem dX9_year_30 : decode cX9_year 30 = .ok (.aload_n 0, 1) := by decide +kernel
theorem dX9_year_31 : decode cX9_year 31 = .ok (.getfield 19, 3) := by decide +kernel
theorem dX9_year_34 : decode cX9_year 34 = .ok (.aload_n 0, 1) := by decide +kernel
theorem dX9_year_35 : decode cX9_year 35 = .ok (.getfield 60, 3) := by decide +kernel
theorem dX9_year_38 : decode cX9_year 38 = .ok (.invokevirtual 218, 3) := by decide +kernel
theorem dX9_year_41 : decode cX9_year 41 = .ok (.iinc 3 1, 3) := by decide +kernel
theorem dX9_year_44 : decode cX9_year 44 = .ok (.goto (-19), 3) := by decide +kernel
theorem dX9_year_47 : decode cX9_year 47 = .ok (.aload_n 0, 1) := by decide +kernel
theorem dX9_year_48 : decode cX9_year 48 = .ok (.getfield 19, 3) := by decide +kernel
theorem dX9_year_51 : decode cX9_year 51 = .ok (.getfield 112, 3) := by decide +kernel
theorem dX9_year_54 : decode cX9_year 54 = .ok (.ireturn, 1) := by decide +kernel
theorem dX9_drift_0 : decode cX9_drift 0 = .ok (.aload_n 0, 1) := by decide +kernel
theorem dX9_drift_1 : decode cX9_drift 1 = .ok (.iload_n 1, 1) := by decide +kernel
theorem dX9_drift_2 : decode cX9_drift 2 = .ok (.invokevirtual 215, 3) := by decide +kernel
theorem dX9_drift_5 : decode cX9_drift 5 = .ok (.istore_n 2, 1) := by decide +kernel
theorem dX9_drift_6 : decode cX9_drift 6 = .ok (.iload_n 2, 1) := by decide +kernel
theorem dX9_drift_7 : decode cX9_drift 7 = .ok (.ifCond .eq 5, 3) := by decide +kernel
theorem dX9_drift_10 : decode cX9_drift 10 = .ok (.iload_n 2, 1) := by decide +kernel
theorem dX9_drift_11 : decode cX9_drift 11 = .ok (.ireturn, 1) := by decide +kernel
theorem dX9_drift_12 : decode cX9_drift 12 = .ok (.aload_n 0, 1) := by decide +kernel
theorem dX9_drift_13 : decode cX9_drift 13 = .ok (.getfield 26, 3) := by decide +kernel
theorem dX9_drift_16 : decode cX9_drift 16 = .ok (.aload_n 0, 1) := by decide +kernel
theorem dX9_drift_17 : decode cX9_drift 17 = .ok (.getfield 19, 3) := by decide +kernel
theorem dX9_drift_20 : decode cX9_drift 20 = .ok (.invokevirtual 194, 3) := by decide +kernel
theorem dX9_drift_23 : decode cX9_drift 23 = .ok (.iconst 0, 1) := by decide +kernel
theorem dX9_drift_24 : decode cX9_drift 24 = .ok (.istore_n 3, 1) := by decide +kernel
theorem dX9_drift_25 : decode cX9_drift 25 = .ok (.iload_n 3, 1) := by decide +kernel
theorem dX9_drift_26 : decode cX9_drift 26 = .ok (.iload_n 1, 1) := by decide +kernel
theorem dX9_drift_27 : decode cX9_drift 27 = .ok (.if_icmp .ge 34, 3) := by decide +kernel
theorem dX9_drift_30 : decode cX9_drift 30 = .ok (.aload_n 0, 1) := by decide +kernel
theorem dX9_drift_31 : decode cX9_drift 31 = .ok (.getfield 60, 3) := by decide +kernel
theorem dX9_drift_34 : decode cX9_drift 34 = .ok (.getfield 97, 3) := by decide +kernel
theorem dX9_drift_37 : decode cX9_drift 37 = .ok (.ifCond .le 7, 3) := by decide +kernel
theorem dX9_drift_40 : decode cX9_drift 40 = .ok (.aload_n 0, 1) := by decide +kernel
theorem dX9_drift_41 : decode cX9_drift 41 = .ok (.invokevirtual 221, 3) := by decide +kernel
theorem dX9_drift_44 : decode cX9_drift 44 = .ok (.aload_n 0, 1) := by decide +kernel
theorem dX9_drift_45 : decode cX9_drift 45 = .ok (.getfield 19, 3) := by decide +kernel
theorem dX9_drift_48 : decode cX9_drift 48 = .ok (.aload_n 0, 1) := by decide +kernel
theorem dX9_drift_49 : decode cX9_drift 49 = .ok (.getfield 60, 3) := by decide +kernel
theorem dX9_drift_52 : decode cX9_drift 52 = .ok (.invokevirtual 218, 3) := by decide +kernel
theorem dX9_drift_55 : decode cX9_drift 55 = .ok (.iinc 3 1, 3) := by decide +kernel
theorem dX9_drift_58 : decode cX9_drift 58 = .ok (.goto (-33), 3) := by decide +kernel
theorem dX9_drift_61 : decode cX9_drift 61 = .ok (.aload_n 0, 1) := by decide +kernel
theorem dX9_drift_62 : decode cX9_drift 62 = .ok (.getfield 19, 3) := by decide +kernel
theorem dX9_drift_65 : decode cX9_drift 65 = .ok (.getfield 112, 3) := by decide +kernel
theorem dX9_drift_68 : decode cX9_drift 68 = .ok (.ireturn, 1) := by decide +kernel
theorem dX9_undo_0 : decode cX9_undo 0 = .ok (.aload_n 0, 1) := by decide +kernel
theorem dX9_undo_1 : decode cX9_undo 1 = .ok (.getfield 26, 3) := by decide +kernel
theorem dX9_undo_4 : decode cX9_undo 4 = .ok (.getfield 152, 3) := by decide +kernel
theorem dX9_undo_7 : decode cX9_undo 7 = .ok (.ifCond .ne 6, 3) := by decide +kernel
theorem dX9_undo_10 : decode cX9_undo 10 = .ok (.ldc 193, 2) := by decide +kernel
theorem dX9_undo_12 : decode cX9_undo 12 = .ok (.ireturn, 1) := by decide +kernel
theorem dX9_undo_13 : decode cX9_undo 13 = .ok (.aload_n 0, 1) := by decide +kernel
theorem dX9_undo_14 : decode cX9_undo 14 = .ok (.getfield 26, 3) := by decide +kernel
theorem dX9_undo_17 : decode cX9_undo 17 = .ok (.aload_n 0, 1) := by decide +kernel
theorem dX9_undo_18 : decode cX9_undo 18 = .ok (.getfield 19, 3) := by decide +kernel
theorem dX9_undo_21 : decode cX9_undo 21 = .ok (.invokevirtual 224, 3) := by decide +kernel
theorem dX9_undo_24 : decode cX9_undo 24 = .ok (.aload_n 0, 1) := by decide +kernel
theorem dX9_undo_25 : decode cX9_undo 25 = .ok (.getfield 26, 3) := by decide +kernel
theorem dX9_undo_28 : decode cX9_undo 28 = .ok (.getfield 152, 3) := by decide +kernel
theorem dX9_undo_31 : decode cX9_undo 31 = .ok (.ireturn, 1) := by decide +kernel
theorem dX9_warm_0 : decode cX9_warm 0 = .ok (.aload_n 0, 1) := by decide +kernel
theorem dX9_warm_1 : decode cX9_warm 1 = .ok (.getfield 60, 3) := by decide +kernel
theorem dX9_warm_4 : decode cX9_warm 4 = .ok (.iload_n 1, 1) := by decide +kernel
theorem dX9_warm_5 : decode cX9_warm 5 = .ok (.invokevirtual 153, 3) := by decide +kernel
theorem dX9_warm_8 : decode cX9_warm 8 = .ok (.ifCond .ne 6, 3) := by decide +kernel
theorem dX9_warm_11 : decode cX9_warm 11 = .ok (.ldc 157, 2) := by decide +kernel
theorem dX9_warm_13 : decode cX9_warm 13 = .ok (.ireturn, 1) := by decide +kernel
theorem dX9_warm_14 : decode cX9_warm 14 = .ok (.iload_n 2, 1) := by decide +kernel
theorem dX9_warm_15 : decode cX9_warm 15 = .ok (.ifCond .lt 9, 3) := by decide +kernel
theorem dX9_warm_18 : decode cX9_warm 18 = .ok (.iload_n 2, 1) := by decide +kernel
theorem dX9_warm_19 : decode cX9_warm 19 = .ok (.bipush 100, 2) := by decide +kernel
theorem dX9_warm_21 : decode cX9_warm 21 = .ok (.if_icmp .le 6, 3) := by decide +kernel
theorem dX9_warm_24 : decode cX9_warm 24 = .ok (.ldc 68, 2) := by decide +kernel
theorem dX9_warm_26 : decode cX9_warm 26 = .ok (.ireturn, 1) := by decide +kernel
theorem dX9_warm_27 : decode cX9_warm 27 = .ok (.aload_n 0, 1) := by decide +kernel
theorem dX9_warm_28 : decode cX9_warm 28 = .ok (.getfield 19, 3) := by decide +kernel
theorem dX9_warm_31 : decode cX9_warm 31 = .ok (.aload_n 0, 1) := by decide +kernel
theorem dX9_warm_32 : decode cX9_warm 32 = .ok (.getfield 60, 3) := by decide +kernel
theorem dX9_warm_35 : decode cX9_warm 35 = .ok (.iload_n 1, 1) := by decide +kernel
theorem dX9_warm_36 : decode cX9_warm 36 = .ok (.iload_n 2, 1) := by decide +kernel
theorem dX9_warm_37 : decode cX9_warm 37 = .ok (.invokevirtual 227, 3) := by decide +kernel
theorem dX9_warm_40 : decode cX9_warm 40 = .ok (.ireturn, 1) := by decide +kernel
theorem dX9_warmest_0 : decode cX9_warmest 0 = .ok (.iload_n 1, 1) := by decide +kernel
theorem dX9_warmest_1 : decode cX9_warmest 1 = .ok (.ifCond .lt 9, 3) := by decide +kernel
theorem dX9_warmest_4 : decode cX9_warmest 4 = .ok (.iload_n 1, 1) := by decide +kernel
theorem dX9_warmest_5 : decode cX9_warmest 5 = .ok (.bipush 100, 2) := by decide +kernel
theorem dX9_warmest_7 : decode cX9_warmest 7 = .ok (.if_icmp .le 6, 3) := by decide +kernel
theorem dX9_warmest_10 : decode cX9_warmest 10 = .ok (.ldc 68, 2) := by decide +kernel
theorem dX9_warmest_12 : decode cX9_warmest 12 = .ok (.ireturn, 1) := by decide +kernel
theorem dX9_warmest_13 : decode cX9_warmest 13 = .ok (.iconst (-1), 1) := by decide +kernel
theorem dX9_warmest_14 : decode cX9_warmest 14 = .ok (.istore_n 2, 1) := by decide +kernel
theorem dX9_warmest_15 : decode cX9_warmest 15 = .ok (.iconst (-1), 1) := by decide +kernel
theorem dX9_warmest_16 : decode cX9_warmest 16 = .ok (.istore_n 3, 1) := by decide +kernel
theorem dX9_warmest_17 : decode cX9_warmest 17 = .ok (.iconst 0, 1) := by decide +kernel
theorem dX9_warmest_18 : decode cX9_warmest 18 = .ok (.istore 4, 2) := by decide +kernel
theorem dX9_warmest_20 : decode cX9_warmest 20 = .ok (.iload 4, 2) := by decide +kernel
theorem dX9_warmest_22 : decode cX9_warmest 22 = .ok (.aload_n 0, 1) := by decide +kernel
theorem dX9_warmest_23 : decode cX9_warmest 23 = .ok (.getfield 60, 3) := by decide +kernel
theorem dX9_warmest_26 : decode cX9_warmest 26 = .ok (.getfield 97, 3) := by decide +kernel
theorem dX9_warmest_29 : decode cX9_warmest 29 = .ok (.if_icmp .ge 37, 3) := by decide +kernel
theorem dX9_warmest_32 : decode cX9_warmest 32 = .ok (.aload_n 0, 1) := by decide +kernel
theorem dX9_warmest_33 : decode cX9_warmest 33 = .ok (.getfield 19, 3) := by decide +kernel
theorem dX9_warmest_36 : decode cX9_warmest 36 = .ok (.aload_n 0, 1) := by decide +kernel
theorem dX9_warmest_37 : decode cX9_warmest 37 = .ok (.getfield 60, 3) := by decide +kernel
theorem dX9_warmest_40 : decode cX9_warmest 40 = .ok (.iload 4, 2) := by decide +kernel
theorem dX9_warmest_42 : decode cX9_warmest 42 = .ok (.iload_n 1, 1) := by decide +kernel
theorem dX9_warmest_43 : decode cX9_warmest 43 = .ok (.invokevirtual 227, 3) := by decide +kernel
theorem dX9_warmest_46 : decode cX9_warmest 46 = .ok (.istore 5, 2) := by decide +kernel
theorem dX9_warmest_48 : decode cX9_warmest 48 = .ok (.iload 5, 2) := by decide +kernel
theorem dX9_warmest_50 : decode cX9_warmest 50 = .ok (.iload_n 3, 1) := by decide +kernel
theorem dX9_warmest_51 : decode cX9_warmest 51 = .ok (.if_icmp .le 9, 3) := by decide +kernel
theorem dX9_warmest_54 : decode cX9_warmest 54 = .ok (.iload 4, 2) := by decide +kernel
theorem dX9_warmest_56 : decode cX9_warmest 56 = .ok (.istore_n 2, 1) := by decide +kernel
theorem dX9_warmest_57 : decode cX9_warmest 57 = .ok (.iload 5, 2) := by decide +kernel
theorem dX9_warmest_59 : decode cX9_warmest 59 = .ok (.istore_n 3, 1) := by decide +kernel
theorem dX9_warmest_60 : decode cX9_warmest 60 = .ok (.iinc 4 1, 3) := by decide +kernel
theorem dX9_warmest_63 : decode cX9_warmest 63 = .ok (.goto (-43), 3) := by decide +kernel
theorem dX9_warmest_66 : decode cX9_warmest 66 = .ok (.iload_n 2, 1) := by decide +kernel
theorem dX9_warmest_67 : decode cX9_warmest 67 = .ok (.ireturn, 1) := by decide +kernel
