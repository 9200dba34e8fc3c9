theorem dX10_findRings_36 : decode cX10_findRings 36 = .ok (.iconst 1, 1) := by decide +kernel
theorem dX10_findRings_37 : decode cX10_findRings 37 = .ok (.istore_n 1, 1) := by decide +kernel
theorem dX10_findRings_38 : decode cX10_findRings 38 = .ok (.iload_n 1, 1) := by decide +kernel
theorem dX10_findRings_39 : decode cX10_findRings 39 = .ok (.iconst 1, 1) := by decide +kernel
theorem dX10_findRings_40 : decode cX10_findRings 40 = .ok (.aload_n 0, 1) := by decide +kernel
theorem dX10_findRings_41 : decode cX10_findRings 41 = .ok (.getfield 79, 3) := by decide +kernel
theorem dX10_findRings_44 : decode cX10_findRings 44 = .ok (.ishl, 1) := by decide +kernel
theorem dX10_findRings_45 : decode cX10_findRings 45 = .ok (.if_icmp .ge 106, 3) := by decide +kernel
theorem dX10_findRings_48 : decode cX10_findRings 48 = .ok (.iconst (-1), 1) := by decide +kernel
theorem dX10_findRings_49 : decode cX10_findRings 49 = .ok (.istore_n 2, 1) := by decide +kernel
theorem dX10_findRings_50 : decode cX10_findRings 50 = .ok (.iconst 1, 1) := by decide +kernel
theorem dX10_findRings_51 : decode cX10_findRings 51 = .ok (.istore_n 3, 1) := by decide +kernel
theorem dX10_findRings_52 : decode cX10_findRings 52 = .ok (.iload_n 3, 1) := by decide +kernel
theorem dX10_findRings_53 : decode cX10_findRings 53 = .ok (.iload_n 1, 1) := by decide +kernel
theorem dX10_findRings_54 : decode cX10_findRings 54 = .ok (.if_icmp .gt 84, 3) := by decide +kernel
theorem dX10_findRings_57 : decode cX10_findRings 57 = .ok (.iload_n 3, 1) := by decide +kernel
theorem dX10_findRings_58 : decode cX10_findRings 58 = .ok (.iload_n 1, 1) := by decide +kernel
theorem dX10_findRings_59 : decode cX10_findRings 59 = .ok (.iconst (-1), 1) := by decide +kernel
theorem dX10_findRings_60 : decode cX10_findRings 60 = .ok (.ixor, 1) := by decide +kernel
theorem dX10_findRings_61 : decode cX10_findRings 61 = .ok (.iand, 1) := by decide +kernel
theorem dX10_findRings_62 : decode cX10_findRings 62 = .ok (.ifCond .ne 29, 3) := by decide +kernel
theorem dX10_findRings_65 : decode cX10_findRings 65 = .ok (.aload_n 0, 1) := by decide +kernel
theorem dX10_findRings_66 : decode cX10_findRings 66 = .ok (.getfield 53, 3) := by decide +kernel
theorem dX10_findRings_69 : decode cX10_findRings 69 = .ok (.iload_n 3, 1) := by decide +kernel
theorem dX10_findRings_70 : decode cX10_findRings 70 = .ok (.baload, 1) := by decide +kernel
theorem dX10_findRings_71 : decode cX10_findRings 71 = .ok (.ifCond .eq 20, 3) := by decide +kernel
theorem dX10_findRings_74 : decode cX10_findRings 74 = .ok (.aload_n 0, 1) := by decide +kernel
theorem dX10_findRings_75 : decode cX10_findRings 75 = .ok (.getfield 50, 3) := by decide +kernel
theorem dX10_findRings_78 : decode cX10_findRings 78 = .ok (.iload_n 1, 1) := by decide +kernel
theorem dX10_findRings_79 : decode cX10_findRings 79 = .ok (.iload_n 3, 1) := by decide +kernel
theorem dX10_findRings_80 : decode cX10_findRings 80 = .ok (.iconst (-1), 1) := by decide +kernel
theorem dX10_findRings_81 : decode cX10_findRings 81 = .ok (.ixor, 1) := by decide +kernel
theorem dX10_findRings_82 : decode cX10_findRings 82 = .ok (.iand, 1) := by decide +kernel
theorem dX10_findRings_83 : decode cX10_findRings 83 = .ok (.iaload, 1) := by decide +kernel
theorem dX10_findRings_84 : decode cX10_findRings 84 = .ok (.ifCond .lt 7, 3) := by decide +kernel
theorem dX10_findRings_87 : decode cX10_findRings 87 = .ok (.iconst 1, 1) := by decide +kernel
theorem dX10_findRings_88 : decode cX10_findRings 88 = .ok (.goto 4, 3) := by decide +kernel
theorem dX10_findRings_91 : decode cX10_findRings 91 = .ok (.iconst 0, 1) := by decide +kernel
theorem dX10_findRings_92 : decode cX10_findRings 92 = .ok (.istore 4, 2) := by decide +kernel
theorem dX10_findRings_94 : decode cX10_findRings 94 = .ok (.iload 4, 2) := by decide +kernel
theorem dX10_findRings_96 : decode cX10_findRings 96 = .ok (.ifCond .eq 34, 3) := by decide +kernel
theorem dX10_findRings_99 : decode cX10_findRings 99 = .ok (.aload_n 0, 1) := by decide +kernel
theorem dX10_findRings_100 : decode cX10_findRings 100 = .ok (.getfield 50, 3) := by decide +kernel
theorem dX10_findRings_103 : decode cX10_findRings 103 = .ok (.iload_n 1, 1) := by decide +kernel
theorem dX10_findRings_104 : decode cX10_findRings 104 = .ok (.iload_n 3, 1) := by decide +kernel
theorem dX10_findRings_105 : decode cX10_findRings 105 = .ok (.iconst (-1), 1) := by decide +kernel
theorem dX10_findRings_106 : decode cX10_findRings 106 = .ok (.ixor, 1) := by decide +kernel
theorem dX10_findRings_107 : decode cX10_findRings 107 = .ok (.iand, 1) := by decide +kernel
theorem dX10_findRings_108 : decode cX10_findRings 108 = .ok (.iaload, 1) := by decide +kernel
theorem dX10_findRings_109 : decode cX10_findRings 109 = .ok (.iconst 1, 1) := by decide +kernel
theorem dX10_findRings_110 : decode cX10_findRings 110 = .ok (.iadd, 1) := by decide +kernel
theorem dX10_findRings_111 : decode cX10_findRings 111 = .ok (.iload_n 2, 1) := by decide +kernel
theorem dX10_findRings_112 : decode cX10_findRings 112 = .ok (.if_icmp .le 18, 3) := by decide +kernel
theorem dX10_findRings_115 : decode cX10_findRings 115 = .ok (.aload_n 0, 1) := by decide +kernel
theorem dX10_findRings_116 : decode cX10_findRings 116 = .ok (.getfield 50, 3) := by decide +kernel
theorem dX10_findRings_119 : decode cX10_findRings 119 = .ok (.iload_n 1, 1) := by decide +kernel
theorem dX10_findRings_120 : decode cX10_findRings 120 = .ok (.iload_n 3, 1) := by decide +kernel
theorem dX10_findRings_121 : decode cX10_findRings 121 = .ok (.iconst (-1), 1) := by decide +kernel
theorem dX10_findRings_122 : decode cX10_findRings 122 = .ok (.ixor, 1) := by decide +kernel
theorem dX10_findRings_123 : decode cX10_findRings 123 = .ok (.iand, 1) := by decide +kernel
theorem dX10_findRings_124 : decode cX10_findRings 124 = .ok (.iaload, 1) := by decide +kernel
theorem dX10_findRings_125 : decode cX10_findRings 125 = .ok (.iconst 1, 1) := by decide +kernel
theorem dX10_findRings_126 : decode cX10_findRings 126 = .ok (.iadd, 1) := by decide +kernel
theorem dX10_findRings_127 : decode cX10_findRings 127 = .ok (.goto 4, 3) := by decide +kernel
theorem dX10_findRings_130 : decode cX10_findRings 130 = .ok (.iload_n 2, 1) := by decide +kernel
theorem dX10_findRings_131 : decode cX10_findRings 131 = .ok (.istore_n 2, 1) := by decide +kernel
theorem dX10_findRings_132 : decode cX10_findRings 132 = .ok (.iinc 3 1, 3) := by decide +kernel
theorem dX10_findRings_135 : decode cX10_findRings 135 = .ok (.goto (-83), 3) := by decide +kernel
theorem dX10_findRings_138 : decode cX10_findRings 138 = .ok (.aload_n 0, 1) := by decide +kernel
theorem dX10_findRings_139 : decode cX10_findRings 139 = .ok (.getfield 50, 3) := by decide +kernel
theorem dX10_findRings_142 : decode cX10_findRings 142 = .ok (.iload_n 1, 1) := by decide +kernel
theorem dX10_findRings_143 : decode cX10_findRings 143 = .ok (.iload_n 2, 1) := by decide +kernel
theorem dX10_findRings_144 : decode cX10_findRings 144 = .ok (.iastore, 1) := by decide +kernel
theorem dX10_findRings_145 : decode cX10_findRings 145 = .ok (.iinc 1 1, 3) := by decide +kernel
theorem dX10_findRings_148 : decode cX10_findRings 148 = .ok (.goto (-110), 3) := by decide +kernel
theorem dX10_findRings_151 : decode cX10_findRings 151 = .ok (.return_, 1) := by decide +kernel
theorem dX10_fewestSwaps_0 : decode cX10_fewestSwaps 0 = .ok (.aload_n 0, 1) := by decide +kernel
theorem dX10_fewestSwaps_1 : decode cX10_fewestSwaps 1 = .ok (.invokevirtual 283, 3) := by decide +kernel
theorem dX10_fewestSwaps_4 : decode cX10_fewestSwaps 4 = .ok (.aload_n 0, 1) := by decide +kernel
theorem dX10_fewestSwaps_5 : decode cX10_fewestSwaps 5 = .ok (.invokevirtual 197, 3) := by decide +kernel
theorem dX10_fewestSwaps_8 : decode cX10_fewestSwaps 8 = .ok (.istore_n 1, 1) := by decide +kernel
theorem dX10_fewestSwaps_9 : decode cX10_fewestSwaps 9 = .ok (.aload_n 0, 1) := by decide +kernel
theorem dX10_fewestSwaps_10 : decode cX10_fewestSwaps 10 = .ok (.getfield 50, 3) := by decide +kernel
theorem dX10_fewestSwaps_13 : decode cX10_fewestSwaps 13 = .ok (.iload_n 1, 1) := by decide +kernel
theorem dX10_fewestSwaps_14 : decode cX10_fewestSwaps 14 = .ok (.iaload, 1) := by decide +kernel
theorem dX10_fewestSwaps_15 : decode cX10_fewestSwaps 15 = .ok (.ifCond .ge 7, 3) := by decide +kernel
theorem dX10_fewestSwaps_18 : decode cX10_fewestSwaps 18 = .ok (.iconst (-1), 1) := by decide +kernel
theorem dX10_fewestSwaps_19 : decode cX10_fewestSwaps 19 = .ok (.goto 14, 3) := by decide +kernel
theorem dX10_fewestSwaps_22 : decode cX10_fewestSwaps 22 = .ok (.iload_n 1, 1) := by decide +kernel
theorem dX10_fewestSwaps_23 : decode cX10_fewestSwaps 23 = .ok (.invokestatic 188, 3) := by decide +kernel
theorem dX10_fewestSwaps_26 : decode cX10_fewestSwaps 26 = .ok (.aload_n 0, 1) := by decide +kernel
theorem dX10_fewestSwaps_27 : decode cX10_fewestSwaps 27 = .ok (.getfield 50, 3) := by decide +kernel
theorem dX10_fewestSwaps_30 : decode cX10_fewestSwaps 30 = .ok (.iload_n 1, 1) := by decide +kernel
theorem dX10_fewestSwaps_31 : decode cX10_fewestSwaps 31 = .ok (.iaload, 1) := by decide +kernel
theorem dX10_fewestSwaps_32 : decode cX10_fewestSwaps 32 = .ok (.isub, 1) := by decide +kernel
theorem dX10_fewestSwaps_33 : decode cX10_fewestSwaps 33 = .ok (.ireturn, 1) := by decide +kernel
theorem dX10_firstSwap_0 : decode cX10_firstSwap 0 = .ok (.iconst 0, 1) := by decide +kernel
theorem dX10_firstSwap_1 : decode cX10_firstSwap 1 = .ok (.istore_n 2, 1) := by decide +kernel
theorem dX10_firstSwap_2 : decode cX10_firstSwap 2 = .ok (.iload_n 2, 1) := by decide +kernel
theorem dX10_firstSwap_3 : decode cX10_firstSwap 3 = .ok (.aload_n 0, 1) := by decide +kernel
theorem dX10_firstSwap_4 : decode cX10_firstSwap 4 = .ok (.getfield 79, 3) := by decide +kernel
theorem dX10_firstSwap_7 : decode cX10_firstSwap 7 = .ok (.if_icmp .ge 104, 3) := by decide +kernel
theorem dX10_firstSwap_10 : decode cX10_firstSwap 10 = .ok (.iload_n 2, 1) := by decide +kernel
theorem dX10_firstSwap_11 : decode cX10_firstSwap 11 = .ok (.iconst 1, 1) := by decide +kernel
theorem dX10_firstSwap_12 : decode cX10_firstSwap 12 = .ok (.iadd, 1) := by decide +kernel
theorem dX10_firstSwap_13 : decode cX10_firstSwap 13 = .ok (.istore_n 3, 1) := by decide +kernel
theorem dX10_firstSwap_14 : decode cX10_firstSwap 14 = .ok (.iload_n 3, 1) := by decide +kernel
theorem dX10_firstSwap_15 : decode cX10_firstSwap 15 = .ok (.aload_n 0, 1) := by decide +kernel
theorem dX10_firstSwap_16 : decode cX10_firstSwap 16 = .ok (.getfield 79, 3) := by decide +kernel
theorem dX10_firstSwap_19 : decode cX10_firstSwap 19 = .ok (.if_icmp .ge 86, 3) := by decide +kernel
theorem dX10_firstSwap_22 : decode cX10_firstSwap 22 = .ok (.aload_n 0, 1) := by decide +kernel
theorem dX10_firstSwap_23 : decode cX10_firstSwap 23 = .ok (.getfield 22, 3) := by decide +kernel
theorem dX10_firstSwap_26 : decode cX10_firstSwap 26 = .ok (.iload_n 2, 1) := by decide +kernel
theorem dX10_firstSwap_27 : decode cX10_firstSwap 27 = .ok (.iaload, 1) := by decide +kernel
theorem dX10_firstSwap_28 : decode cX10_firstSwap 28 = .ok (.istore 4, 2) := by decide +kernel
theorem dX10_firstSwap_30 : decode cX10_firstSwap 30 = .ok (.aload_n 0, 1) := by decide +kernel
theorem dX10_firstSwap_31 : decode cX10_firstSwap 31 = .ok (.getfield 22, 3) := by decide +kernel
theorem dX10_firstSwap_34 : decode cX10_firstSwap 34 = .ok (.iload_n 3, 1) := by decide +kernel
theorem dX10_firstSwap_35 : decode cX10_firstSwap 35 = .ok (.iaload, 1) := by decide +kernel
theorem dX10_firstSwap_36 : decode cX10_firstSwap 36 = .ok (.istore 5, 2) := by decide +kernel
theorem dX10_firstSwap_38 : decode cX10_firstSwap 38 = .ok (.aload_n 0, 1) := by decide +kernel
theorem dX10_firstSwap_39 : decode cX10_firstSwap 39 = .ok (.getfield 22, 3) := by decide +kernel
theorem dX10_firstSwap_42 : decode cX10_firstSwap 42 = .ok (.iload_n 2, 1) := by decide +kernel
theorem dX10_firstSwap_43 : decode cX10_firstSwap 43 = .ok (.iload 5, 2) := by decide +kernel
theorem dX10_firstSwap_45 : decode cX10_firstSwap 45 = .ok (.iastore, 1) := by decide +kernel
theorem dX10_firstSwap_46 : decode cX10_firstSwap 46 = .ok (.aload_n 0, 1) := by decide +kernel
theorem dX10_firstSwap_47 : decode cX10_firstSwap 47 = .ok (.getfield 22, 3) := by decide +kernel
theorem dX10_firstSwap_50 : decode cX10_firstSwap 50 = .ok (.iload_n 3, 1) := by decide +kernel
theorem dX10_firstSwap_51 : decode cX10_firstSwap 51 = .ok (.iload 4, 2) := by decide +kernel
theorem dX10_firstSwap_53 : decode cX10_firstSwap 53 = .ok (.iastore, 1) := by decide +kernel
theorem dX10_firstSwap_54 : decode cX10_firstSwap 54 = .ok (.aload_n 0, 1) := by decide +kernel
theorem dX10_firstSwap_55 : decode cX10_firstSwap 55 = .ok (.invokevirtual 286, 3) := by decide +kernel
theorem dX10_firstSwap_58 : decode cX10_firstSwap 58 = .ok (.iload_n 1, 1) := by decide +kernel
theorem dX10_firstSwap_59 : decode cX10_firstSwap 59 = .ok (.iconst 1, 1) := by decide +kernel
theorem dX10_firstSwap_60 : decode cX10_firstSwap 60 = .ok (.isub, 1) := by decide +kernel
theorem dX10_firstSwap_61 : decode cX10_firstSwap 61 = .ok (.if_icmp .ne 7, 3) := by decide +kernel
theorem dX10_firstSwap_64 : decode cX10_firstSwap 64 = .ok (.iconst 1, 1) := by decide +kernel
theorem dX10_firstSwap_65 : decode cX10_firstSwap 65 = .ok (.goto 4, 3) := by decide +kernel
theorem dX10_firstSwap_68 : decode cX10_firstSwap 68 = .ok (.iconst 0, 1) := by decide +kernel
theorem dX10_firstSwap_69 : decode cX10_firstSwap 69 = .ok (.istore 6, 2) := by decide +kernel
theorem dX10_firstSwap_71 : decode cX10_firstSwap 71 = .ok (.aload_n 0, 1) := by decide +kernel
theorem dX10_firstSwap_72 : decode cX10_firstSwap 72 = .ok (.getfield 22, 3) := by decide +kernel
theorem dX10_firstSwap_75 : decode cX10_firstSwap 75 = .ok (.iload_n 2, 1) := by decide +kernel
theorem dX10_firstSwap_76 : decode cX10_firstSwap 76 = .ok (.iload 4, 2) := by decide +kernel
theorem dX10_firstSwap_78 : decode cX10_firstSwap 78 = .ok (.iastore, 1) := by decide +kernel
theorem dX10_firstSwap_79 : decode cX10_firstSwap 79 = .ok (.aload_n 0, 1) := by decide +kernel
theorem dX10_firstSwap_80 : decode cX10_firstSwap 80 = .ok (.getfield 22, 3) := by decide +kernel
theorem dX10_firstSwap_83 : decode cX10_firstSwap 83 = .ok (.iload_n 3, 1) := by decide +kernel
theorem dX10_firstSwap_84 : decode cX10_firstSwap 84 = .ok (.iload 5, 2) := by decide +kernel
theorem dX10_firstSwap_86 : decode cX10_firstSwap 86 = .ok (.iastore, 1) := by decide +kernel
theorem dX10_firstSwap_87 : decode cX10_firstSwap 87 = .ok (.iload 6, 2) := by decide +kernel
theorem dX10_firstSwap_89 : decode cX10_firstSwap 89 = .ok (.ifCond .eq 10, 3) := by decide +kernel
theorem dX10_firstSwap_92 : decode cX10_firstSwap 92 = .ok (.bipush 10, 2) := by decide +kernel
theorem dX10_firstSwap_94 : decode cX10_firstSwap 94 = .ok (.iload_n 2, 1) := by decide +kernel
theorem dX10_firstSwap_95 : decode cX10_firstSwap 95 = .ok (.imul, 1) := by decide +kernel
theorem dX10_firstSwap_96 : decode cX10_firstSwap 96 = .ok (.iload_n 3, 1) := by decide +kernel
theorem dX10_firstSwap_97 : decode cX10_firstSwap 97 = .ok (.iadd, 1) := by decide +kernel
theorem dX10_firstSwap_98 : decode cX10_firstSwap 98 = .ok (.ireturn, 1) := by decide +kernel
theorem dX10_firstSwap_99 : decode cX10_firstSwap 99 = .ok (.iinc 3 1, 3) := by decide +kernel
theorem dX10_firstSwap_102 : decode cX10_firstSwap 102 = .ok (.goto (-88), 3) := by decide +kernel
theorem dX10_firstSwap_105 : decode cX10_firstSwap 105 = .ok (.iinc 2 1, 3) := by decide +kernel
theorem dX10_firstSwap_108 : decode cX10_firstSwap 108 = .ok (.goto (-106), 3) := by decide +kernel
theorem dX10_firstSwap_111 : decode cX10_firstSwap 111 = .ok (.iconst (-1), 1) := by decide +kernel
theorem dX10_firstSwap_112 : decode cX10_firstSwap 112 = .ok (.ireturn, 1) := by decide +kernel
theorem dX10_swaps_0 : decode cX10_swaps 0 = .ok (.iload_n 1, 1) := by decide +kernel
theorem dX10_swaps_1 : decode cX10_swaps 1 = .ok (.i2l, 1) := by decide +kernel
theorem dX10_swaps_2 : decode cX10_swaps 2 = .ok (.lconst 0, 1) := by decide +kernel
theorem dX10_swaps_3 : decode cX10_swaps 3 = .ok (.lconst 1, 1) := by decide +kernel
theorem dX10_swaps_4 : decode cX10_swaps 4 = .ok (.invokestatic 75, 3) := by decide +kernel
theorem dX10_swaps_7 : decode cX10_swaps 7 = .ok (.ifCond .ne 6, 3) := by decide +kernel
theorem dX10_swaps_10 : decode cX10_swaps 10 = .ok (.ldc 84, 2) := by decide +kernel
theorem dX10_swaps_12 : decode cX10_swaps 12 = .ok (.ireturn, 1) := by decide +kernel
theorem dX10_swaps_13 : decode cX10_swaps 13 = .ok (.aload_n 0, 1) := by decide +kernel
theorem dX10_swaps_14 : decode cX10_swaps 14 = .ok (.invokevirtual 286, 3) := by decide +kernel
theorem dX10_swaps_17 : decode cX10_swaps 17 = .ok (.istore_n 2, 1) := by decide +kernel
theorem dX10_swaps_18 : decode cX10_swaps 18 = .ok (.iload_n 1, 1) := by decide +kernel
theorem dX10_swaps_19 : decode cX10_swaps 19 = .ok (.ifCond .eq 8, 3) := by decide +kernel
theorem dX10_swaps_22 : decode cX10_swaps 22 = .ok (.iload_n 2, 1) := by decide +kernel
theorem dX10_swaps_23 : decode cX10_swaps 23 = .ok (.iconst 1, 1) := by decide +kernel
theorem dX10_swaps_24 : decode cX10_swaps 24 = .ok (.if_icmp .ge 15, 3) := by decide +kernel
theorem dX10_swaps_27 : decode cX10_swaps 27 = .ok (.iload_n 1, 1) := by decide +kernel
theorem dX10_swaps_28 : decode cX10_swaps 28 = .ok (.ifCond .ne 7, 3) := by decide +kernel
theorem dX10_swaps_31 : decode cX10_swaps 31 = .ok (.iload_n 2, 1) := by decide +kernel
theorem dX10_swaps_32 : decode cX10_swaps 32 = .ok (.goto 12, 3) := by decide +kernel
theorem dX10_swaps_35 : decode cX10_swaps 35 = .ok (.iconst (-1), 1) := by decide +kernel
theorem dX10_swaps_36 : decode cX10_swaps 36 = .ok (.goto 8, 3) := by decide +kernel
theorem dX10_swaps_39 : decode cX10_swaps 39 = .ok (.aload_n 0, 1) := by decide +kernel
theorem dX10_swaps_40 : decode cX10_swaps 40 = .ok (.iload_n 2, 1) := by decide +kernel
theorem dX10_swaps_41 : decode cX10_swaps 41 = .ok (.invokevirtual 289, 3) := by decide +kernel
theorem dX10_swaps_44 : decode cX10_swaps 44 = .ok (.ireturn, 1) := by decide +kernel
theorem dX10_close_0 : decode cX10_close 0 = .ok (.iload_n 1, 1) := by decide +kernel
theorem dX10_close_1 : decode cX10_close 1 = .ok (.i2l, 1) := by decide +kernel
theorem dX10_close_2 : decode cX10_close 2 = .ok (.lconst 0, 1) := by decide +kernel
theorem dX10_close_3 : decode cX10_close 3 = .ok (.ldc2_w 292, 3) := by decide +kernel
theorem dX10_close_6 : decode cX10_close 6 = .ok (.invokestatic 75, 3) := by decide +kernel
theorem dX10_close_9 : decode cX10_close 9 = .ok (.ifCond .eq 11, 3) := by decide +kernel
theorem dX10_close_12 : decode cX10_close 12 = .ok (.aload_n 0, 1) := by decide +kernel
theorem dX10_close_13 : decode cX10_close 13 = .ok (.iload_n 1, 1) := by decide +kernel
theorem dX10_close_14 : decode cX10_close 14 = .ok (.invokevirtual 200, 3) := by decide +kernel
theorem dX10_close_17 : decode cX10_close 17 = .ok (.goto 5, 3) := by decide +kernel
theorem dX10_close_20 : decode cX10_close 20 = .ok (.ldc 84, 2) := by decide +kernel
theorem dX10_close_22 : decode cX10_close 22 = .ok (.ireturn, 1) := by decide +kernel
theorem dX10_likeIn_0 : decode cX10_likeIn 0 = .ok (.iconst 0, 1) := by decide +kernel
theorem dX10_likeIn_1 : decode cX10_likeIn 1 = .ok (.istore_n 2, 1) := by decide +kernel
theorem dX10_likeIn_2 : decode cX10_likeIn 2 = .ok (.iconst 0, 1) := by decide +kernel
theorem dX10_likeIn_3 : decode cX10_likeIn 3 = .ok (.istore_n 3, 1) := by decide +kernel
theorem dX10_likeIn_4 : decode cX10_likeIn 4 = .ok (.iload_n 3, 1) := by decide +kernel
theorem dX10_likeIn_5 : decode cX10_likeIn 5 = .ok (.aload_n 0, 1) := by decide +kernel
theorem dX10_likeIn_6 : decode cX10_likeIn 6 = .ok (.getfield 79, 3) := by decide +kernel
theorem dX10_likeIn_9 : decode cX10_likeIn 9 = .ok (.if_icmp .ge 38, 3) := by decide +kernel
theorem dX10_likeIn_12 : decode cX10_likeIn 12 = .ok (.iload_n 2, 1) := by decide +kernel
theorem dX10_likeIn_13 : decode cX10_likeIn 13 = .ok (.aload_n 0, 1) := by decide +kernel
theorem dX10_likeIn_14 : decode cX10_likeIn 14 = .ok (.getfield 22, 3) := by decide +kernel
theorem dX10_likeIn_17 : decode cX10_likeIn 17 = .ok (.bipush 17, 2) := by decide +kernel
theorem dX10_likeIn_19 : decode cX10_likeIn 19 = .ok (.iload_n 3, 1) := by decide +kernel
theorem dX10_likeIn_20 : decode cX10_likeIn 20 = .ok (.iadd, 1) := by decide +kernel
theorem dX10_likeIn_21 : decode cX10_likeIn 21 = .ok (.iaload, 1) := by decide +kernel
theorem dX10_likeIn_22 : decode cX10_likeIn 22 = .ok (.aload_n 0, 1) := by decide +kernel
theorem dX10_likeIn_23 : decode cX10_likeIn 23 = .ok (.getfield 149, 3) := by decide +kernel
theorem dX10_likeIn_26 : decode cX10_likeIn 26 = .ok (.ixor, 1) := by decide +kernel
theorem dX10_likeIn_27 : decode cX10_likeIn 27 = .ok (.iload_n 1, 1) := by decide +kernel
theorem dX10_likeIn_28 : decode cX10_likeIn 28 = .ok (.iand, 1) := by decide +kernel
theorem dX10_likeIn_29 : decode cX10_likeIn 29 = .ok (.ifCond .ne 9, 3) := by decide +kernel
theorem dX10_likeIn_32 : decode cX10_likeIn 32 = .ok (.iconst 1, 1) := by decide +kernel
theorem dX10_likeIn_33 : decode cX10_likeIn 33 = .ok (.iload_n 3, 1) := by decide +kernel
theorem dX10_likeIn_34 : decode cX10_likeIn 34 = .ok (.ishl, 1) := by decide +kernel
theorem dX10_likeIn_35 : decode cX10_likeIn 35 = .ok (.goto 4, 3) := by decide +kernel
theorem dX10_likeIn_38 : decode cX10_likeIn 38 = .ok (.iconst 0, 1) := by decide +kernel
theorem dX10_likeIn_39 : decode cX10_likeIn 39 = .ok (.ior, 1) := by decide +kernel
theorem dX10_likeIn_40 : decode cX10_likeIn 40 = .ok (.istore_n 2, 1) := by decide +kernel
theorem dX10_likeIn_41 : decode cX10_likeIn 41 = .ok (.iinc 3 1, 3) := by decide +kernel
theorem dX10_likeIn_44 : decode cX10_likeIn 44 = .ok (.goto (-40), 3) := by decide +kernel
theorem dX10_likeIn_47 : decode cX10_likeIn 47 = .ok (.iload_n 2, 1) := by decide +kernel
theorem dX10_likeIn_48 : decode cX10_likeIn 48 = .ok (.ireturn, 1) := by decide +kernel
theorem dX10_nextSign_0 : decode cX10_nextSign 0 = .ok (.iconst (-1), 1) := by decide +kernel
theorem dX10_nextSign_1 : decode cX10_nextSign 1 = .ok (.istore_n 2, 1) := by decide +kernel
theorem dX10_nextSign_2 : decode cX10_nextSign 2 = .ok (.iload_n 1, 1) := by decide +kernel
theorem dX10_nextSign_3 : decode cX10_nextSign 3 = .ok (.invokestatic 188, 3) := by decide +kernel
theorem dX10_nextSign_6 : decode cX10_nextSign 6 = .ok (.istore_n 3, 1) := by decide +kernel
theorem dX10_nextSign_7 : decode cX10_nextSign 7 = .ok (.iconst 0, 1) := by decide +kernel
theorem dX10_nextSign_8 : decode cX10_nextSign 8 = .ok (.istore 4, 2) := by decide +kernel
theorem dX10_nextSign_10 : decode cX10_nextSign 10 = .ok (.iload 4, 2) := by decide +kernel
theorem dX10_nextSign_12 : decode cX10_nextSign 12 = .ok (.bipush 6, 2) := by decide +kernel
theorem dX10_nextSign_14 : decode cX10_nextSign 14 = .ok (.if_icmp .ge 119, 3) := by decide +kernel
theorem dX10_nextSign_17 : decode cX10_nextSign 17 = .ok (.iconst 0, 1) := by decide +kernel
theorem dX10_nextSign_18 : decode cX10_nextSign 18 = .ok (.istore 5, 2) := by decide +kernel
theorem dX10_nextSign_20 : decode cX10_nextSign 20 = .ok (.iconst 0, 1) := by decide +kernel
theorem dX10_nextSign_21 : decode cX10_nextSign 21 = .ok (.istore 6, 2) := by decide +kernel
theorem dX10_nextSign_23 : decode cX10_nextSign 23 = .ok (.iload 6, 2) := by decide +kernel
theorem dX10_nextSign_25 : decode cX10_nextSign 25 = .ok (.aload_n 0, 1) := by decide +kernel
theorem dX10_nextSign_26 : decode cX10_nextSign 26 = .ok (.getfield 79, 3) := by decide +kernel
theorem dX10_nextSign_29 : decode cX10_nextSign 29 = .ok (.if_icmp .ge 46, 3) := by decide +kernel
theorem dX10_nextSign_32 : decode cX10_nextSign 32 = .ok (.iload 5, 2) := by decide +kernel
theorem dX10_nextSign_34 : decode cX10_nextSign 34 = .ok (.iload_n 1, 1) := by decide +kernel
theorem dX10_nextSign_35 : decode cX10_nextSign 35 = .ok (.iload 6, 2) := by decide +kernel
theorem dX10_nextSign_37 : decode cX10_nextSign 37 = .ok (.invokestatic 175, 3) := by decide +kernel
theorem dX10_nextSign_40 : decode cX10_nextSign 40 = .ok (.ifCond .eq 25, 3) := by decide +kernel
theorem dX10_nextSign_43 : decode cX10_nextSign 43 = .ok (.aload_n 0, 1) := by decide +kernel
theorem dX10_nextSign_44 : decode cX10_nextSign 44 = .ok (.getfield 22, 3) := by decide +kernel
theorem dX10_nextSign_47 : decode cX10_nextSign 47 = .ok (.bipush 17, 2) := by decide +kernel
theorem dX10_nextSign_49 : decode cX10_nextSign 49 = .ok (.iload 6, 2) := by decide +kernel
theorem dX10_nextSign_51 : decode cX10_nextSign 51 = .ok (.iadd, 1) := by decide +kernel
theorem dX10_nextSign_52 : decode cX10_nextSign 52 = .ok (.iaload, 1) := by decide +kernel
theorem dX10_nextSign_53 : decode cX10_nextSign 53 = .ok (.iload 4, 2) := by decide +kernel
theorem dX10_nextSign_55 : decode cX10_nextSign 55 = .ok (.invokestatic 175, 3) := by decide +kernel
theorem dX10_nextSign_58 : decode cX10_nextSign 58 = .ok (.ifCond .eq 7, 3) := by decide +kernel
theorem dX10_nextSign_61 : decode cX10_nextSign 61 = .ok (.iconst 1, 1) := by decide +kernel
theorem dX10_nextSign_62 : decode cX10_nextSign 62 = .ok (.goto 4, 3) := by decide +kernel
theorem dX10_nextSign_65 : decode cX10_nextSign 65 = .ok (.iconst 0, 1) := by decide +kernel
theorem dX10_nextSign_66 : decode cX10_nextSign 66 = .ok (.iadd, 1) := by decide +kernel
theorem dX10_nextSign_67 : decode cX10_nextSign 67 = .ok (.istore 5, 2) := by decide +kernel
theorem dX10_nextSign_69 : decode cX10_nextSign 69 = .ok (.iinc 6 1, 3) := by decide +kernel
theorem dX10_nextSign_72 : decode cX10_nextSign 72 = .ok (.goto (-49), 3) := by decide +kernel
theorem dX10_nextSign_75 : decode cX10_nextSign 75 = .ok (.iload 5, 2) := by decide +kernel
theorem dX10_nextSign_77 : decode cX10_nextSign 77 = .ok (.iload_n 1, 1) := by decide +kernel
theorem dX10_nextSign_78 : decode cX10_nextSign 78 = .ok (.invokestatic 188, 3) := by decide +kernel
theorem dX10_nextSign_81 : decode cX10_nextSign 81 = .ok (.iload 5, 2) := by decide +kernel
theorem dX10_nextSign_83 : decode cX10_nextSign 83 = .ok (.isub, 1) := by decide +kernel
theorem dX10_nextSign_84 : decode cX10_nextSign 84 = .ok (.if_icmp .le 8, 3) := by decide +kernel
theorem dX10_nextSign_87 : decode cX10_nextSign 87 = .ok (.iload 5, 2) := by decide +kernel
theorem dX10_nextSign_89 : decode cX10_nextSign 89 = .ok (.goto 10, 3) := by decide +kernel
theorem dX10_nextSign_92 : decode cX10_nextSign 92 = .ok (.iload_n 1, 1) := by decide +kernel
theorem dX10_nextSign_93 : decode cX10_nextSign 93 = .ok (.invokestatic 188, 3) := by decide +kernel
theorem dX10_nextSign_96 : decode cX10_nextSign 96 = .ok (.iload 5, 2) := by decide +kernel
theorem dX10_nextSign_98 : decode cX10_nextSign 98 = .ok (.isub, 1) := by decide +kernel
theorem dX10_nextSign_99 : decode cX10_nextSign 99 = .ok (.istore 6, 2) := by decide +kernel
theorem dX10_nextSign_101 : decode cX10_nextSign 101 = .ok (.iload 6, 2) := by decide +kernel
theorem dX10_nextSign_103 : decode cX10_nextSign 103 = .ok (.iload_n 3, 1) := by decide +kernel
theorem dX10_nextSign_104 : decode cX10_nextSign 104 = .ok (.if_icmp .ge 8, 3) := by decide +kernel
theorem dX10_nextSign_107 : decode cX10_nextSign 107 = .ok (.iload 4, 2) := by decide +kernel
theorem dX10_nextSign_109 : decode cX10_nextSign 109 = .ok (.goto 4, 3) := by decide +kernel
theorem dX10_nextSign_112 : decode cX10_nextSign 112 = .ok (.iload_n 2, 1) := by decide +kernel
theorem dX10_nextSign_113 : decode cX10_nextSign 113 = .ok (.istore_n 2, 1) := by decide +kernel
theorem dX10_nextSign_114 : decode cX10_nextSign 114 = .ok (.iload 6, 2) := by decide +kernel
theorem dX10_nextSign_116 : decode cX10_nextSign 116 = .ok (.iload_n 3, 1) := by decide +kernel
theorem dX10_nextSign_117 : decode cX10_nextSign 117 = .ok (.if_icmp .ge 8, 3) := by decide +kernel
theorem dX10_nextSign_120 : decode cX10_nextSign 120 = .ok (.iload 6, 2) := by decide +kernel
theorem dX10_nextSign_122 : decode cX10_nextSign 122 = .ok (.goto 4, 3) := by decide +kernel
theorem dX10_nextSign_125 : decode cX10_nextSign 125 = .ok (.iload_n 3, 1) := by decide +kernel
theorem dX10_nextSign_126 : decode cX10_nextSign 126 = .ok (.istore_n 3, 1) := by decide +kernel
theorem dX10_nextSign_127 : decode cX10_nextSign 127 = .ok (.iinc 4 1, 3) := by decide +kernel
theorem dX10_nextSign_130 : decode cX10_nextSign 130 = .ok (.goto (-120), 3) := by decide +kernel
theorem dX10_nextSign_133 : decode cX10_nextSign 133 = .ok (.iload_n 2, 1) := by decide +kernel
theorem dX10_nextSign_134 : decode cX10_nextSign 134 = .ok (.ireturn, 1) := by decide +kernel
theorem dX10_look_0 : decode cX10_look 0 = .ok (.iload_n 1, 1) := by decide +kernel
theorem dX10_look_1 : decode cX10_look 1 = .ok (.i2l, 1) := by decide +kernel
theorem dX10_look_2 : decode cX10_look 2 = .ok (.lconst 0, 1) := by decide +kernel
theorem dX10_look_3 : decode cX10_look 3 = .ok (.ldc2_w 247, 3) := by decide +kernel
theorem dX10_look_6 : decode cX10_look 6 = .ok (.invokestatic 75, 3) := by decide +kernel
theorem dX10_look_9 : decode cX10_look 9 = .ok (.ifCond .eq 13, 3) := by decide +kernel
theorem dX10_look_12 : decode cX10_look 12 = .ok (.iload_n 2, 1) := by decide +kernel
theorem dX10_look_13 : decode cX10_look 13 = .ok (.i2l, 1) := by decide +kernel
theorem dX10_look_14 : decode cX10_look 14 = .ok (.lconst 0, 1) := by decide +kernel
theorem dX10_look_15 : decode cX10_look 15 = .ok (.lconst 1, 1) := by decide +kernel
theorem dX10_look_16 : decode cX10_look 16 = .ok (.invokestatic 75, 3) := by decide +kernel
theorem dX10_look_19 : decode cX10_look 19 = .ok (.ifCond .ne 6, 3) := by decide +kernel
theorem dX10_look_22 : decode cX10_look 22 = .ok (.ldc 84, 2) := by decide +kernel
theorem dX10_look_24 : decode cX10_look 24 = .ok (.ireturn, 1) := by decide +kernel
theorem dX10_look_25 : decode cX10_look 25 = .ok (.aload_n 0, 1) := by decide +kernel
theorem dX10_look_26 : decode cX10_look 26 = .ok (.iload_n 1, 1) := by decide +kernel
theorem dX10_look_27 : decode cX10_look 27 = .ok (.invokevirtual 294, 3) := by decide +kernel
theorem dX10_look_30 : decode cX10_look 30 = .ok (.istore_n 3, 1) := by decide +kernel
theorem dX10_look_31 : decode cX10_look 31 = .ok (.iload_n 2, 1) := by decide +kernel
theorem dX10_look_32 : decode cX10_look 32 = .ok (.ifCond .ne 7, 3) := by decide +kernel
theorem dX10_look_35 : decode cX10_look 35 = .ok (.iload_n 3, 1) := by decide +kernel
theorem dX10_look_36 : decode cX10_look 36 = .ok (.goto 8, 3) := by decide +kernel
theorem dX10_look_39 : decode cX10_look 39 = .ok (.aload_n 0, 1) := by decide +kernel
theorem dX10_look_40 : decode cX10_look 40 = .ok (.iload_n 3, 1) := by decide +kernel
theorem dX10_look_41 : decode cX10_look 41 = .ok (.invokevirtual 297, 3) := by decide +kernel
theorem dX10_look_44 : decode cX10_look 44 = .ok (.ireturn, 1) := by decide +kernel
theorem dX10_agreed_0 : decode cX10_agreed 0 = .ok (.iload_n 1, 1) := by decide +kernel
theorem dX10_agreed_1 : decode cX10_agreed 1 = .ok (.i2l, 1) := by decide +kernel
theorem dX10_agreed_2 : decode cX10_agreed 2 = .ok (.lconst 0, 1) := by decide +kernel
theorem dX10_agreed_3 : decode cX10_agreed 3 = .ok (.iconst 1, 1) := by decide +kernel
theorem dX10_agreed_4 : decode cX10_agreed 4 = .ok (.aload_n 0, 1) := by decide +kernel
theorem dX10_agreed_5 : decode cX10_agreed 5 = .ok (.getfield 72, 3) := by decide +kernel
theorem dX10_agreed_8 : decode cX10_agreed 8 = .ok (.ishl, 1) := by decide +kernel
theorem dX10_agreed_9 : decode cX10_agreed 9 = .ok (.iconst 1, 1) := by decide +kernel
theorem dX10_agreed_10 : decode cX10_agreed 10 = .ok (.isub, 1) := by decide +kernel
theorem dX10_agreed_11 : decode cX10_agreed 11 = .ok (.i2l, 1) := by decide +kernel
theorem dX10_agreed_12 : decode cX10_agreed 12 = .ok (.invokestatic 75, 3) := by decide +kernel
theorem dX10_agreed_15 : decode cX10_agreed 15 = .ok (.ifCond .ne 6, 3) := by decide +kernel
theorem dX10_agreed_18 : decode cX10_agreed 18 = .ok (.ldc 218, 2) := by decide +kernel
theorem dX10_agreed_20 : decode cX10_agreed 20 = .ok (.ireturn, 1) := by decide +kernel
theorem dX10_agreed_21 : decode cX10_agreed 21 = .ok (.aload_n 0, 1) := by decide +kernel
theorem dX10_agreed_22 : decode cX10_agreed 22 = .ok (.getfield 72, 3) := by decide +kernel
theorem dX10_agreed_25 : decode cX10_agreed 25 = .ok (.ifCond .le 15, 3) := by decide +kernel
theorem dX10_agreed_28 : decode cX10_agreed 28 = .ok (.aload_n 0, 1) := by decide +kernel
theorem dX10_agreed_29 : decode cX10_agreed 29 = .ok (.iload_n 1, 1) := by decide +kernel
theorem dX10_agreed_30 : decode cX10_agreed 30 = .ok (.invokevirtual 185, 3) := by decide +kernel
theorem dX10_agreed_33 : decode cX10_agreed 33 = .ok (.ifCond .eq 7, 3) := by decide +kernel
theorem dX10_agreed_36 : decode cX10_agreed 36 = .ok (.iconst 1, 1) := by decide +kernel
theorem dX10_agreed_37 : decode cX10_agreed 37 = .ok (.goto 4, 3) := by decide +kernel
theorem dX10_agreed_40 : decode cX10_agreed 40 = .ok (.iconst 0, 1) := by decide +kernel
theorem dX10_agreed_41 : decode cX10_agreed 41 = .ok (.ireturn, 1) := by decide +kernel
theorem dX10_placeOf_0 : decode cX10_placeOf 0 = .ok (.iload_n 0, 1) := by decide +kernel
theorem dX10_placeOf_1 : decode cX10_placeOf 1 = .ok (.bipush 6, 2) := by decide +kernel
theorem dX10_placeOf_3 : decode cX10_placeOf 3 = .ok (.irem, 1) := by decide +kernel
theorem dX10_placeOf_4 : decode cX10_placeOf 4 = .ok (.iconst 2, 1) := by decide +kernel
theorem dX10_placeOf_5 : decode cX10_placeOf 5 = .ok (.idiv, 1) := by decide +kernel
theorem dX10_placeOf_6 : decode cX10_placeOf 6 = .ok (.istore_n 2, 1) := by decide +kernel
theorem dX10_placeOf_7 : decode cX10_placeOf 7 = .ok (.iload_n 2, 1) := by decide +kernel
theorem dX10_placeOf_8 : decode cX10_placeOf 8 = .ok (.ifCond .ne 7, 3) := by decide +kernel
theorem dX10_placeOf_11 : decode cX10_placeOf 11 = .ok (.iconst 1, 1) := by decide +kernel
theorem dX10_placeOf_12 : decode cX10_placeOf 12 = .ok (.goto 4, 3) := by decide +kernel
theorem dX10_placeOf_15 : decode cX10_placeOf 15 = .ok (.iconst 0, 1) := by decide +kernel
theorem dX10_placeOf_16 : decode cX10_placeOf 16 = .ok (.istore_n 3, 1) := by decide +kernel
theorem dX10_placeOf_17 : decode cX10_placeOf 17 = .ok (.iconst 3, 1) := by decide +kernel
theorem dX10_placeOf_18 : decode cX10_placeOf 18 = .ok (.iload_n 2, 1) := by decide +kernel
theorem dX10_placeOf_19 : decode cX10_placeOf 19 = .ok (.isub, 1) := by decide +kernel
theorem dX10_placeOf_20 : decode cX10_placeOf 20 = .ok (.iload_n 3, 1) := by decide +kernel
theorem dX10_placeOf_21 : decode cX10_placeOf 21 = .ok (.isub, 1) := by decide +kernel
theorem dX10_placeOf_22 : decode cX10_placeOf 22 = .ok (.istore 4, 2) := by decide +kernel
theorem dX10_placeOf_24 : decode cX10_placeOf 24 = .ok (.iload_n 0, 1) := by decide +kernel
theorem dX10_placeOf_25 : decode cX10_placeOf 25 = .ok (.bipush 6, 2) := by decide +kernel
theorem dX10_placeOf_27 : decode cX10_placeOf 27 = .ok (.irem, 1) := by decide +kernel
theorem dX10_placeOf_28 : decode cX10_placeOf 28 = .ok (.iconst 2, 1) := by decide +kernel
theorem dX10_placeOf_29 : decode cX10_placeOf 29 = .ok (.irem, 1) := by decide +kernel
theorem dX10_placeOf_30 : decode cX10_placeOf 30 = .ok (.ifCond .ne 7, 3) := by decide +kernel
theorem dX10_placeOf_33 : decode cX10_placeOf 33 = .ok (.iload_n 3, 1) := by decide +kernel
theorem dX10_placeOf_34 : decode cX10_placeOf 34 = .ok (.goto 5, 3) := by decide +kernel
theorem dX10_placeOf_37 : decode cX10_placeOf 37 = .ok (.iload 4, 2) := by decide +kernel
theorem dX10_placeOf_39 : decode cX10_placeOf 39 = .ok (.istore 5, 2) := by decide +kernel
theorem dX10_placeOf_41 : decode cX10_placeOf 41 = .ok (.iload_n 1, 1) := by decide +kernel
theorem dX10_placeOf_42 : decode cX10_placeOf 42 = .ok (.iload_n 2, 1) := by decide +kernel
theorem dX10_placeOf_43 : decode cX10_placeOf 43 = .ok (.if_icmp .ne 7, 3) := by decide +kernel
theorem dX10_placeOf_46 : decode cX10_placeOf 46 = .ok (.iconst 0, 1) := by decide +kernel
theorem dX10_placeOf_47 : decode cX10_placeOf 47 = .ok (.goto 14, 3) := by decide +kernel
theorem dX10_placeOf_50 : decode cX10_placeOf 50 = .ok (.iload_n 1, 1) := by decide +kernel
theorem dX10_placeOf_51 : decode cX10_placeOf 51 = .ok (.iload 5, 2) := by decide +kernel
theorem dX10_placeOf_53 : decode cX10_placeOf 53 = .ok (.if_icmp .ne 7, 3) := by decide +kernel
theorem dX10_placeOf_56 : decode cX10_placeOf 56 = .ok (.iconst 1, 1) := by decide +kernel
theorem dX10_placeOf_57 : decode cX10_placeOf 57 = .ok (.goto 4, 3) := by decide +kernel
theorem dX10_placeOf_60 : decode cX10_placeOf 60 = .ok (.iconst 2, 1) := by decide +kernel
theorem dX10_placeOf_61 : decode cX10_placeOf 61 = .ok (.ireturn, 1) := by decide +kernel
theorem dX10_winnerOf_0 : decode cX10_winnerOf 0 = .ok (.iconst 0, 1) := by decide +kernel
theorem dX10_winnerOf_1 : decode cX10_winnerOf 1 = .ok (.istore_n 3, 1) := by decide +kernel
theorem dX10_winnerOf_2 : decode cX10_winnerOf 2 = .ok (.iconst 0, 1) := by decide +kernel
theorem dX10_winnerOf_3 : decode cX10_winnerOf 3 = .ok (.istore 4, 2) := by decide +kernel
theorem dX10_winnerOf_5 : decode cX10_winnerOf 5 = .ok (.iload 4, 2) := by decide +kernel
theorem dX10_winnerOf_7 : decode cX10_winnerOf 7 = .ok (.aload_n 0, 1) := by decide +kernel
theorem dX10_winnerOf_8 : decode cX10_winnerOf 8 = .ok (.getfield 72, 3) := by decide +kernel
theorem dX10_winnerOf_11 : decode cX10_winnerOf 11 = .ok (.if_icmp .ge 45, 3) := by decide +kernel
theorem dX10_winnerOf_14 : decode cX10_winnerOf 14 = .ok (.iload_n 3, 1) := by decide +kernel
theorem dX10_winnerOf_15 : decode cX10_winnerOf 15 = .ok (.iload 4, 2) := by decide +kernel
theorem dX10_winnerOf_17 : decode cX10_winnerOf 17 = .ok (.iload_n 1, 1) := by decide +kernel
theorem dX10_winnerOf_18 : decode cX10_winnerOf 18 = .ok (.invokestatic 300, 3) := by decide +kernel
theorem dX10_winnerOf_21 : decode cX10_winnerOf 21 = .ok (.iload 4, 2) := by decide +kernel
theorem dX10_winnerOf_23 : decode cX10_winnerOf 23 = .ok (.iload_n 2, 1) := by decide +kernel
theorem dX10_winnerOf_24 : decode cX10_winnerOf 24 = .ok (.invokestatic 300, 3) := by decide +kernel
theorem dX10_winnerOf_27 : decode cX10_winnerOf 27 = .ok (.if_icmp .ge 13, 3) := by decide +kernel
theorem dX10_winnerOf_30 : decode cX10_winnerOf 30 = .ok (.aload_n 0, 1) := by decide +kernel
theorem dX10_winnerOf_31 : decode cX10_winnerOf 31 = .ok (.getfield 7, 3) := by decide +kernel
theorem dX10_winnerOf_34 : decode cX10_winnerOf 34 = .ok (.iload 4, 2) := by decide +kernel
theorem dX10_winnerOf_36 : decode cX10_winnerOf 36 = .ok (.iaload, 1) := by decide +kernel
theorem dX10_winnerOf_37 : decode cX10_winnerOf 37 = .ok (.goto 11, 3) := by decide +kernel
theorem dX10_winnerOf_40 : decode cX10_winnerOf 40 = .ok (.aload_n 0, 1) := by decide +kernel
theorem dX10_winnerOf_41 : decode cX10_winnerOf 41 = .ok (.getfield 7, 3) := by decide +kernel
theorem dX10_winnerOf_44 : decode cX10_winnerOf 44 = .ok (.iload 4, 2) := by decide +kernel
theorem dX10_winnerOf_46 : decode cX10_winnerOf 46 = .ok (.iaload, 1) := by decide +kernel
theorem dX10_winnerOf_47 : decode cX10_winnerOf 47 = .ok (.ineg, 1) := by decide +kernel
theorem dX10_winnerOf_48 : decode cX10_winnerOf 48 = .ok (.iadd, 1) := by decide +kernel
theorem dX10_winnerOf_49 : decode cX10_winnerOf 49 = .ok (.istore_n 3, 1) := by decide +kernel
theorem dX10_winnerOf_50 : decode cX10_winnerOf 50 = .ok (.iinc 4 1, 3) := by decide +kernel
theorem dX10_winnerOf_53 : decode cX10_winnerOf 53 = .ok (.goto (-48), 3) := by decide +kernel
theorem dX10_winnerOf_56 : decode cX10_winnerOf 56 = .ok (.iload_n 3, 1) := by decide +kernel
theorem dX10_winnerOf_57 : decode cX10_winnerOf 57 = .ok (.ifCond .le 7, 3) := by decide +kernel
theorem dX10_winnerOf_60 : decode cX10_winnerOf 60 = .ok (.iload_n 1, 1) := by decide +kernel
theorem dX10_winnerOf_61 : decode cX10_winnerOf 61 = .ok (.goto 21, 3) := by decide +kernel
theorem dX10_winnerOf_64 : decode cX10_winnerOf 64 = .ok (.iload_n 3, 1) := by decide +kernel
theorem dX10_winnerOf_65 : decode cX10_winnerOf 65 = .ok (.ifCond .ge 7, 3) := by decide +kernel
theorem dX10_winnerOf_68 : decode cX10_winnerOf 68 = .ok (.iload_n 2, 1) := by decide +kernel
theorem dX10_winnerOf_69 : decode cX10_winnerOf 69 = .ok (.goto 13, 3) := by decide +kernel
theorem dX10_winnerOf_72 : decode cX10_winnerOf 72 = .ok (.iload_n 1, 1) := by decide +kernel
theorem dX10_winnerOf_73 : decode cX10_winnerOf 73 = .ok (.iload_n 2, 1) := by decide +kernel
theorem dX10_winnerOf_74 : decode cX10_winnerOf 74 = .ok (.if_icmp .ge 7, 3) := by decide +kernel
theorem dX10_winnerOf_77 : decode cX10_winnerOf 77 = .ok (.iload_n 1, 1) := by decide +kernel
theorem dX10_winnerOf_78 : decode cX10_winnerOf 78 = .ok (.goto 4, 3) := by decide +kernel
theorem dX10_winnerOf_81 : decode cX10_winnerOf 81 = .ok (.iload_n 2, 1) := by decide +kernel
theorem dX10_winnerOf_82 : decode cX10_winnerOf 82 = .ok (.ireturn, 1) := by decide +kernel
theorem dX10_agendaOf_0 : decode cX10_agendaOf 0 = .ok (.aload_n 0, 1) := by decide +kernel
theorem dX10_agendaOf_1 : decode cX10_agendaOf 1 = .ok (.aload_n 0, 1) := by decide +kernel
theorem dX10_agendaOf_2 : decode cX10_agendaOf 2 = .ok (.iload_n 1, 1) := by decide +kernel
theorem dX10_agendaOf_3 : decode cX10_agendaOf 3 = .ok (.iload_n 2, 1) := by decide +kernel
theorem dX10_agendaOf_4 : decode cX10_agendaOf 4 = .ok (.invokevirtual 303, 3) := by decide +kernel
theorem dX10_agendaOf_7 : decode cX10_agendaOf 7 = .ok (.iconst 3, 1) := by decide +kernel
theorem dX10_agendaOf_8 : decode cX10_agendaOf 8 = .ok (.iload_n 1, 1) := by decide +kernel
theorem dX10_agendaOf_9 : decode cX10_agendaOf 9 = .ok (.isub, 1) := by decide +kernel
theorem dX10_agendaOf_10 : decode cX10_agendaOf 10 = .ok (.iload_n 2, 1) := by decide +kernel
theorem dX10_agendaOf_11 : decode cX10_agendaOf 11 = .ok (.isub, 1) := by decide +kernel
theorem dX10_agendaOf_12 : decode cX10_agendaOf 12 = .ok (.invokevirtual 303, 3) := by decide +kernel
theorem dX10_agendaOf_15 : decode cX10_agendaOf 15 = .ok (.ireturn, 1) := by decide +kernel
theorem dX10_agenda_0 : decode cX10_agenda 0 = .ok (.iload_n 1, 1) := by decide +kernel
theorem dX10_agenda_1 : decode cX10_agenda 1 = .ok (.i2l, 1) := by decide +kernel
theorem dX10_agenda_2 : decode cX10_agenda 2 = .ok (.lconst 0, 1) := by decide +kernel
theorem dX10_agenda_3 : decode cX10_agenda 3 = .ok (.ldc2_w 306, 3) := by decide +kernel
theorem dX10_agenda_6 : decode cX10_agenda 6 = .ok (.invokestatic 75, 3) := by decide +kernel
theorem dX10_agenda_9 : decode cX10_agenda 9 = .ok (.ifCond .eq 20, 3) := by decide +kernel
theorem dX10_agenda_12 : decode cX10_agenda 12 = .ok (.iload_n 2, 1) := by decide +kernel
theorem dX10_agenda_13 : decode cX10_agenda 13 = .ok (.i2l, 1) := by decide +kernel
theorem dX10_agenda_14 : decode cX10_agenda 14 = .ok (.lconst 0, 1) := by decide +kernel
theorem dX10_agenda_15 : decode cX10_agenda 15 = .ok (.ldc2_w 306, 3) := by decide +kernel
theorem dX10_agenda_18 : decode cX10_agenda 18 = .ok (.invokestatic 75, 3) := by decide +kernel
theorem dX10_agenda_21 : decode cX10_agenda 21 = .ok (.ifCond .eq 8, 3) := by decide +kernel
theorem dX10_agenda_24 : decode cX10_agenda 24 = .ok (.iload_n 1, 1) := by decide +kernel
theorem dX10_agenda_25 : decode cX10_agenda 25 = .ok (.iload_n 2, 1) := by decide +kernel
theorem dX10_agenda_26 : decode cX10_agenda 26 = .ok (.if_icmp .ne 6, 3) := by decide +kernel
theorem dX10_agenda_29 : decode cX10_agenda 29 = .ok (.ldc 84, 2) := by decide +kernel
theorem dX10_agenda_31 : decode cX10_agenda 31 = .ok (.ireturn, 1) := by decide +kernel
theorem dX10_agenda_32 : decode cX10_agenda 32 = .ok (.aload_n 0, 1) := by decide +kernel
theorem dX10_agenda_33 : decode cX10_agenda 33 = .ok (.getfield 72, 3) := by decide +kernel
theorem dX10_agenda_36 : decode cX10_agenda 36 = .ok (.ifCond .ne 8, 3) := by decide +kernel
theorem dX10_agenda_39 : decode cX10_agenda 39 = .ok (.ldc 236, 2) := by decide +kernel
theorem dX10_agenda_41 : decode cX10_agenda 41 = .ok (.goto 9, 3) := by decide +kernel
theorem dX10_agenda_44 : decode cX10_agenda 44 = .ok (.aload_n 0, 1) := by decide +kernel
theorem dX10_agenda_45 : decode cX10_agenda 45 = .ok (.iload_n 1, 1) := by decide +kernel
theorem dX10_agenda_46 : decode cX10_agenda 46 = .ok (.iload_n 2, 1) := by decide +kernel
theorem dX10_agenda_47 : decode cX10_agenda 47 = .ok (.invokevirtual 308, 3) := by decide +kernel
theorem dX10_agenda_50 : decode cX10_agenda 50 = .ok (.ireturn, 1) := by decide +kernel
theorem dX10_agendaFor_0 : decode cX10_agendaFor 0 = .ok (.iload_n 1, 1) := by decide +kernel
theorem dX10_agendaFor_1 : decode cX10_agendaFor 1 = .ok (.i2l, 1) := by decide +kernel
theorem dX10_agendaFor_2 : decode cX10_agendaFor 2 = .ok (.lconst 0, 1) := by decide +kernel
theorem dX10_agendaFor_3 : decode cX10_agendaFor 3 = .ok (.ldc2_w 306, 3) := by decide +kernel
theorem dX10_agendaFor_6 : decode cX10_agendaFor 6 = .ok (.invokestatic 75, 3) := by decide +kernel
theorem dX10_agendaFor_9 : decode cX10_agendaFor 9 = .ok (.ifCond .ne 6, 3) := by decide +kernel
theorem dX10_agendaFor_12 : decode cX10_agendaFor 12 = .ok (.ldc 84, 2) := by decide +kernel
theorem dX10_agendaFor_14 : decode cX10_agendaFor 14 = .ok (.ireturn, 1) := by decide +kernel
theorem dX10_agendaFor_15 : decode cX10_agendaFor 15 = .ok (.aload_n 0, 1) := by decide +kernel
theorem dX10_agendaFor_16 : decode cX10_agendaFor 16 = .ok (.getfield 72, 3) := by decide +kernel
theorem dX10_agendaFor_19 : decode cX10_agendaFor 19 = .ok (.ifCond .ne 6, 3) := by decide +kernel
theorem dX10_agendaFor_22 : decode cX10_agendaFor 22 = .ok (.ldc 236, 2) := by decide +kernel
theorem dX10_agendaFor_24 : decode cX10_agendaFor 24 = .ok (.ireturn, 1) := by decide +kernel
theorem dX10_agendaFor_25 : decode cX10_agendaFor 25 = .ok (.aload_n 0, 1) := by decide +kernel
theorem dX10_agendaFor_26 : decode cX10_agendaFor 26 = .ok (.iconst 0, 1) := by decide +kernel
theorem dX10_agendaFor_27 : decode cX10_agendaFor 27 = .ok (.iconst 1, 1) := by decide +kernel
theorem dX10_agendaFor_28 : decode cX10_agendaFor 28 = .ok (.invokevirtual 308, 3) := by decide +kernel
theorem dX10_agendaFor_31 : decode cX10_agendaFor 31 = .ok (.iload_n 1, 1) := by decide +kernel
theorem dX10_agendaFor_32 : decode cX10_agendaFor 32 = .ok (.if_icmp .ne 7, 3) := by decide +kernel
theorem dX10_agendaFor_35 : decode cX10_agendaFor 35 = .ok (.iconst 1, 1) := by decide +kernel
theorem dX10_agendaFor_36 : decode cX10_agendaFor 36 = .ok (.goto 33, 3) := by decide +kernel
theorem dX10_agendaFor_39 : decode cX10_agendaFor 39 = .ok (.aload_n 0, 1) := by decide +kernel
theorem dX10_agendaFor_40 : decode cX10_agendaFor 40 = .ok (.iconst 0, 1) := by decide +kernel
theorem dX10_agendaFor_41 : decode cX10_agendaFor 41 = .ok (.iconst 2, 1) := by decide +kernel
theorem dX10_agendaFor_42 : decode cX10_agendaFor 42 = .ok (.invokevirtual 308, 3) := by decide +kernel
theorem dX10_agendaFor_45 : decode cX10_agendaFor 45 = .ok (.iload_n 1, 1) := by decide +kernel
theorem dX10_agendaFor_46 : decode cX10_agendaFor 46 = .ok (.if_icmp .ne 7, 3) := by decide +kernel
theorem dX10_agendaFor_49 : decode cX10_agendaFor 49 = .ok (.iconst 2, 1) := by decide +kernel
theorem dX10_agendaFor_50 : decode cX10_agendaFor 50 = .ok (.goto 19, 3) := by decide +kernel
theorem dX10_agendaFor_53 : decode cX10_agendaFor 53 = .ok (.aload_n 0, 1) := by decide +kernel
theorem dX10_agendaFor_54 : decode cX10_agendaFor 54 = .ok (.iconst 1, 1) := by decide +kernel
theorem dX10_agendaFor_55 : decode cX10_agendaFor 55 = .ok (.iconst 2, 1) := by decide +kernel
theorem dX10_agendaFor_56 : decode cX10_agendaFor 56 = .ok (.invokevirtual 308, 3) := by decide +kernel
theorem dX10_agendaFor_59 : decode cX10_agendaFor 59 = .ok (.iload_n 1, 1) := by decide +kernel
theorem dX10_agendaFor_60 : decode cX10_agendaFor 60 = .ok (.if_icmp .ne 8, 3) := by decide +kernel
theorem dX10_agendaFor_63 : decode cX10_agendaFor 63 = .ok (.bipush 12, 2) := by decide +kernel
theorem dX10_agendaFor_65 : decode cX10_agendaFor 65 = .ok (.goto 4, 3) := by decide +kernel
theorem dX10_agendaFor_68 : decode cX10_agendaFor 68 = .ok (.iconst (-1), 1) := by decide +kernel
theorem dX10_agendaFor_69 : decode cX10_agendaFor 69 = .ok (.ireturn, 1) := by decide +kernel
theorem dX10_pleases_0 : decode cX10_pleases 0 = .ok (.iconst 0, 1) := by decide +kernel
theorem dX10_pleases_1 : decode cX10_pleases 1 = .ok (.istore_n 3, 1) := by decide +kernel
theorem dX10_pleases_2 : decode cX10_pleases 2 = .ok (.iconst 0, 1) := by decide +kernel
theorem dX10_pleases_3 : decode cX10_pleases 3 = .ok (.istore 4, 2) := by decide +kernel
theorem dX10_pleases_5 : decode cX10_pleases 5 = .ok (.iload 4, 2) := by decide +kernel
theorem dX10_pleases_7 : decode cX10_pleases 7 = .ok (.aload_n 0, 1) := by decide +kernel
theorem dX10_pleases_8 : decode cX10_pleases 8 = .ok (.getfield 79, 3) := by decide +kernel
theorem dX10_pleases_11 : decode cX10_pleases 11 = .ok (.if_icmp .ge 37, 3) := by decide +kernel
theorem dX10_pleases_14 : decode cX10_pleases 14 = .ok (.iload_n 3, 1) := by decide +kernel
theorem dX10_pleases_15 : decode cX10_pleases 15 = .ok (.aload_n 0, 1) := by decide +kernel
theorem dX10_pleases_16 : decode cX10_pleases 16 = .ok (.getfield 16, 3) := by decide +kernel
theorem dX10_pleases_19 : decode cX10_pleases 19 = .ok (.iload 4, 2) := by decide +kernel
theorem dX10_pleases_21 : decode cX10_pleases 21 = .ok (.iaload, 1) := by decide +kernel
theorem dX10_pleases_22 : decode cX10_pleases 22 = .ok (.iload_n 2, 1) := by decide +kernel
theorem dX10_pleases_23 : decode cX10_pleases 23 = .ok (.if_icmp .ne 16, 3) := by decide +kernel
theorem dX10_pleases_26 : decode cX10_pleases 26 = .ok (.aload_n 0, 1) := by decide +kernel
theorem dX10_pleases_27 : decode cX10_pleases 27 = .ok (.getfield 22, 3) := by decide +kernel
theorem dX10_pleases_30 : decode cX10_pleases 30 = .ok (.bipush 17, 2) := by decide +kernel
theorem dX10_pleases_32 : decode cX10_pleases 32 = .ok (.iload 4, 2) := by decide +kernel
theorem dX10_pleases_34 : decode cX10_pleases 34 = .ok (.iadd, 1) := by decide +kernel
theorem dX10_pleases_35 : decode cX10_pleases 35 = .ok (.iaload, 1) := by decide +kernel
theorem dX10_pleases_36 : decode cX10_pleases 36 = .ok (.goto 4, 3) := by decide +kernel
theorem dX10_pleases_39 : decode cX10_pleases 39 = .ok (.iconst 0, 1) := by decide +kernel
theorem dX10_pleases_40 : decode cX10_pleases 40 = .ok (.ior, 1) := by decide +kernel
theorem dX10_pleases_41 : decode cX10_pleases 41 = .ok (.istore_n 3, 1) := by decide +kernel
theorem dX10_pleases_42 : decode cX10_pleases 42 = .ok (.iinc 4 1, 3) := by decide +kernel
theorem dX10_pleases_45 : decode cX10_pleases 45 = .ok (.goto (-40), 3) := by decide +kernel
theorem dX10_pleases_48 : decode cX10_pleases 48 = .ok (.aload_n 0, 1) := by decide +kernel
theorem dX10_pleases_49 : decode cX10_pleases 49 = .ok (.getfield 22, 3) := by decide +kernel
theorem dX10_pleases_52 : decode cX10_pleases 52 = .ok (.bipush 17, 2) := by decide +kernel
theorem dX10_pleases_54 : decode cX10_pleases 54 = .ok (.iload_n 1, 1) := by decide +kernel
theorem dX10_pleases_55 : decode cX10_pleases 55 = .ok (.iadd, 1) := by decide +kernel
theorem dX10_pleases_56 : decode cX10_pleases 56 = .ok (.iaload, 1) := by decide +kernel
theorem dX10_pleases_57 : decode cX10_pleases 57 = .ok (.iload_n 3, 1) := by decide +kernel
theorem dX10_pleases_58 : decode cX10_pleases 58 = .ok (.iand, 1) := by decide +kernel
theorem dX10_pleases_59 : decode cX10_pleases 59 = .ok (.invokestatic 188, 3) := by decide +kernel
theorem dX10_pleases_62 : decode cX10_pleases 62 = .ok (.ireturn, 1) := by decide +kernel
theorem dX10_findWanted_0 : decode cX10_findWanted 0 = .ok (.iconst 0, 1) := by decide +kernel
theorem dX10_findWanted_1 : decode cX10_findWanted 1 = .ok (.istore_n 1, 1) := by decide +kernel
theorem dX10_findWanted_2 : decode cX10_findWanted 2 = .ok (.iload_n 1, 1) := by decide +kernel
theorem dX10_findWanted_3 : decode cX10_findWanted 3 = .ok (.iconst 1, 1) := by decide +kernel
theorem dX10_findWanted_4 : decode cX10_findWanted 4 = .ok (.aload_n 0, 1) := by decide +kernel
theorem dX10_findWanted_5 : decode cX10_findWanted 5 = .ok (.getfield 79, 3) := by decide +kernel
theorem dX10_findWanted_8 : decode cX10_findWanted 8 = .ok (.ishl, 1) := by decide +kernel
theorem dX10_findWanted_9 : decode cX10_findWanted 9 = .ok (.if_icmp .ge 25, 3) := by decide +kernel
theorem dX10_findWanted_12 : decode cX10_findWanted 12 = .ok (.aload_n 0, 1) := by decide +kernel
theorem dX10_findWanted_13 : decode cX10_findWanted 13 = .ok (.getfield 57, 3) := by decide +kernel
theorem dX10_findWanted_16 : decode cX10_findWanted 16 = .ok (.sipush 256, 3) := by decide +kernel
theorem dX10_findWanted_19 : decode cX10_findWanted 19 = .ok (.aload_n 0, 1) := by decide +kernel
theorem dX10_findWanted_20 : decode cX10_findWanted 20 = .ok (.getfield 72, 3) := by decide +kernel
theorem dX10_findWanted_23 : decode cX10_findWanted 23 = .ok (.imul, 1) := by decide +kernel
theorem dX10_findWanted_24 : decode cX10_findWanted 24 = .ok (.iload_n 1, 1) := by decide +kernel
theorem dX10_findWanted_25 : decode cX10_findWanted 25 = .ok (.iadd, 1) := by decide +kernel
theorem dX10_findWanted_26 : decode cX10_findWanted 26 = .ok (.iconst 0, 1) := by decide +kernel
theorem dX10_findWanted_27 : decode cX10_findWanted 27 = .ok (.iastore, 1) := by decide +kernel
theorem dX10_findWanted_28 : decode cX10_findWanted 28 = .ok (.iinc 1 1, 3) := by decide +kernel
theorem dX10_findWanted_31 : decode cX10_findWanted 31 = .ok (.goto (-29), 3) := by decide +kernel
theorem dX10_findWanted_34 : decode cX10_findWanted 34 = .ok (.aload_n 0, 1) := by decide +kernel
theorem dX10_findWanted_35 : decode cX10_findWanted 35 = .ok (.getfield 72, 3) := by decide +kernel
theorem dX10_findWanted_38 : decode cX10_findWanted 38 = .ok (.iconst 1, 1) := by decide +kernel
theorem dX10_findWanted_39 : decode cX10_findWanted 39 = .ok (.isub, 1) := by decide +kernel
theorem dX10_findWanted_40 : decode cX10_findWanted 40 = .ok (.istore_n 1, 1) := by decide +kernel
theorem dX10_findWanted_41 : decode cX10_findWanted 41 = .ok (.iload_n 1, 1) := by decide +kernel
theorem dX10_findWanted_42 : decode cX10_findWanted 42 = .ok (.ifCond .lt 132, 3) := by decide +kernel
theorem dX10_findWanted_45 : decode cX10_findWanted 45 = .ok (.iconst 0, 1) := by decide +kernel
theorem dX10_findWanted_46 : decode cX10_findWanted 46 = .ok (.istore_n 2, 1) := by decide +kernel
theorem dX10_findWanted_47 : decode cX10_findWanted 47 = .ok (.iload_n 2, 1) := by decide +kernel
theorem dX10_findWanted_48 : decode cX10_findWanted 48 = .ok (.iconst 1, 1) := by decide +kernel
theorem dX10_findWanted_49 : decode cX10_findWanted 49 = .ok (.aload_n 0, 1) := by decide +kernel
theorem dX10_findWanted_50 : decode cX10_findWanted 50 = .ok (.getfield 79, 3) := by decide +kernel
theorem dX10_findWanted_53 : decode cX10_findWanted 53 = .ok (.ishl, 1) := by decide +kernel
theorem dX10_findWanted_54 : decode cX10_findWanted 54 = .ok (.if_icmp .ge 114, 3) := by decide +kernel
theorem dX10_findWanted_57 : decode cX10_findWanted 57 = .ok (.aload_n 0, 1) := by decide +kernel
theorem dX10_findWanted_58 : decode cX10_findWanted 58 = .ok (.getfield 57, 3) := by decide +kernel
theorem dX10_findWanted_61 : decode cX10_findWanted 61 = .ok (.sipush 256, 3) := by decide +kernel
theorem dX10_findWanted_64 : decode cX10_findWanted 64 = .ok (.iload_n 1, 1) := by decide +kernel
theorem dX10_findWanted_65 : decode cX10_findWanted 65 = .ok (.imul, 1) := by decide +kernel
theorem dX10_findWanted_66 : decode cX10_findWanted 66 = .ok (.sipush 256, 3) := by decide +kernel
theorem dX10_findWanted_69 : decode cX10_findWanted 69 = .ok (.iadd, 1) := by decide +kernel
theorem dX10_findWanted_70 : decode cX10_findWanted 70 = .ok (.iload_n 2, 1) := by decide +kernel
theorem dX10_findWanted_71 : decode cX10_findWanted 71 = .ok (.iadd, 1) := by decide +kernel
theorem dX10_findWanted_72 : decode cX10_findWanted 72 = .ok (.iaload, 1) := by decide +kernel
theorem dX10_findWanted_73 : decode cX10_findWanted 73 = .ok (.istore_n 3, 1) := by decide +kernel
theorem dX10_findWanted_74 : decode cX10_findWanted 74 = .ok (.iconst 0, 1) := by decide +kernel
theorem dX10_findWanted_75 : decode cX10_findWanted 75 = .ok (.istore 4, 2) := by decide +kernel
theorem dX10_findWanted_77 : decode cX10_findWanted 77 = .ok (.iload 4, 2) := by decide +kernel
theorem dX10_findWanted_79 : decode cX10_findWanted 79 = .ok (.aload_n 0, 1) := by decide +kernel
theorem dX10_findWanted_80 : decode cX10_findWanted 80 = .ok (.getfield 79, 3) := by decide +kernel
theorem dX10_findWanted_83 : decode cX10_findWanted 83 = .ok (.if_icmp .ge 66, 3) := by decide +kernel
theorem dX10_findWanted_86 : decode cX10_findWanted 86 = .ok (.iload_n 2, 1) := by decide +kernel
theorem dX10_findWanted_87 : decode cX10_findWanted 87 = .ok (.iload 4, 2) := by decide +kernel
theorem dX10_findWanted_89 : decode cX10_findWanted 89 = .ok (.invokestatic 175, 3) := by decide +kernel
theorem dX10_findWanted_92 : decode cX10_findWanted 92 = .ok (.ifCond .eq 7, 3) := by decide +kernel
theorem dX10_findWanted_95 : decode cX10_findWanted 95 = .ok (.iconst (-1), 1) := by decide +kernel
theorem dX10_findWanted_96 : decode cX10_findWanted 96 = .ok (.goto 32, 3) := by decide +kernel
theorem dX10_findWanted_99 : decode cX10_findWanted 99 = .ok (.aload_n 0, 1) := by decide +kernel
theorem dX10_findWanted_100 : decode cX10_findWanted 100 = .ok (.iload 4, 2) := by decide +kernel
theorem dX10_findWanted_102 : decode cX10_findWanted 102 = .ok (.iload_n 1, 1) := by decide +kernel
theorem dX10_findWanted_103 : decode cX10_findWanted 103 = .ok (.invokevirtual 311, 3) := by decide +kernel
theorem dX10_findWanted_106 : decode cX10_findWanted 106 = .ok (.aload_n 0, 1) := by decide +kernel
theorem dX10_findWanted_107 : decode cX10_findWanted 107 = .ok (.getfield 57, 3) := by decide +kernel
theorem dX10_findWanted_110 : decode cX10_findWanted 110 = .ok (.sipush 256, 3) := by decide +kernel
theorem dX10_findWanted_113 : decode cX10_findWanted 113 = .ok (.iload_n 1, 1) := by decide +kernel
theorem dX10_findWanted_114 : decode cX10_findWanted 114 = .ok (.imul, 1) := by decide +kernel
theorem dX10_findWanted_115 : decode cX10_findWanted 115 = .ok (.sipush 256, 3) := by decide +kernel
theorem dX10_findWanted_118 : decode cX10_findWanted 118 = .ok (.iadd, 1) := by decide +kernel
theorem dX10_findWanted_119 : decode cX10_findWanted 119 = .ok (.iload_n 2, 1) := by decide +kernel
theorem dX10_findWanted_120 : decode cX10_findWanted 120 = .ok (.iconst 1, 1) := by decide +kernel
theorem dX10_findWanted_121 : decode cX10_findWanted 121 = .ok (.iload 4, 2) := by decide +kernel
theorem dX10_findWanted_123 : decode cX10_findWanted 123 = .ok (.ishl, 1) := by decide +kernel
theorem dX10_findWanted_124 : decode cX10_findWanted 124 = .ok (.ior, 1) := by decide +kernel
theorem dX10_findWanted_125 : decode cX10_findWanted 125 = .ok (.iadd, 1) := by decide +kernel
theorem dX10_findWanted_126 : decode cX10_findWanted 126 = .ok (.iaload, 1) := by decide +kernel
theorem dX10_findWanted_127 : decode cX10_findWanted 127 = .ok (.iadd, 1) := by decide +kernel
theorem dX10_findWanted_128 : decode cX10_findWanted 128 = .ok (.istore 5, 2) := by decide +kernel
theorem dX10_findWanted_130 : decode cX10_findWanted 130 = .ok (.iload 5, 2) := by decide +kernel
theorem dX10_findWanted_132 : decode cX10_findWanted 132 = .ok (.iload_n 3, 1) := by decide +kernel
theorem dX10_findWanted_133 : decode cX10_findWanted 133 = .ok (.if_icmp .le 8, 3) := by decide +kernel
theorem dX10_findWanted_136 : decode cX10_findWanted 136 = .ok (.iload 5, 2) := by decide +kernel
theorem dX10_findWanted_138 : decode cX10_findWanted 138 = .ok (.goto 4, 3) := by decide +kernel
theorem dX10_findWanted_141 : decode cX10_findWanted 141 = .ok (.iload_n 3, 1) := by decide +kernel
theorem dX10_findWanted_142 : decode cX10_findWanted 142 = .ok (.istore_n 3, 1) := by decide +kernel
theorem dX10_findWanted_143 : decode cX10_findWanted 143 = .ok (.iinc 4 1, 3) := by decide +kernel
theorem dX10_findWanted_146 : decode cX10_findWanted 146 = .ok (.goto (-69), 3) := by decide +kernel
theorem dX10_findWanted_149 : decode cX10_findWanted 149 = .ok (.aload_n 0, 1) := by decide +kernel
theorem dX10_findWanted_150 : decode cX10_findWanted 150 = .ok (.getfield 57, 3) := by decide +kernel
theorem dX10_findWanted_153 : decode cX10_findWanted 153 = .ok (.sipush 256, 3) := by decide +kernel
theorem dX10_findWanted_156 : decode cX10_findWanted 156 = .ok (.iload_n 1, 1) := by decide +kernel
theorem dX10_findWanted_157 : decode cX10_findWanted 157 = .ok (.imul, 1) := by decide +kernel
theorem dX10_findWanted_158 : decode cX10_findWanted 158 = .ok (.iload_n 2, 1) := by decide +kernel
theorem dX10_findWanted_159 : decode cX10_findWanted 159 = .ok (.iadd, 1) := by decide +kernel
theorem dX10_findWanted_160 : decode cX10_findWanted 160 = .ok (.iload_n 3, 1) := by decide +kernel
theorem dX10_findWanted_161 : decode cX10_findWanted 161 = .ok (.iastore, 1) := by decide +kernel
theorem dX10_findWanted_162 : decode cX10_findWanted 162 = .ok (.iinc 2 1, 3) := by decide +kernel
theorem dX10_findWanted_165 : decode cX10_findWanted 165 = .ok (.goto (-118), 3) := by decide +kernel
theorem dX10_findWanted_168 : decode cX10_findWanted 168 = .ok (.iinc 1 (-1), 3) := by decide +kernel
theorem dX10_findWanted_171 : decode cX10_findWanted 171 = .ok (.goto (-130), 3) := by decide +kernel
theorem dX10_findWanted_174 : decode cX10_findWanted 174 = .ok (.return_, 1) := by decide +kernel
theorem dX10_wantedBy_0 : decode cX10_wantedBy 0 = .ok (.iconst 0, 1) := by decide +kernel
theorem dX10_wantedBy_1 : decode cX10_wantedBy 1 = .ok (.istore_n 2, 1) := by decide +kernel
theorem dX10_wantedBy_2 : decode cX10_wantedBy 2 = .ok (.iconst (-1), 1) := by decide +kernel
theorem dX10_wantedBy_3 : decode cX10_wantedBy 3 = .ok (.istore_n 3, 1) := by decide +kernel
theorem dX10_wantedBy_4 : decode cX10_wantedBy 4 = .ok (.iconst 0, 1) := by decide +kernel
theorem dX10_wantedBy_5 : decode cX10_wantedBy 5 = .ok (.istore 4, 2) := by decide +kernel
theorem dX10_wantedBy_7 : decode cX10_wantedBy 7 = .ok (.iload 4, 2) := by decide +kernel
theorem dX10_wantedBy_9 : decode cX10_wantedBy 9 = .ok (.iload_n 1, 1) := by decide +kernel
theorem dX10_wantedBy_10 : decode cX10_wantedBy 10 = .ok (.if_icmp .gt 119, 3) := by decide +kernel
theorem dX10_wantedBy_13 : decode cX10_wantedBy 13 = .ok (.iconst (-1), 1) := by decide +kernel
theorem dX10_wantedBy_14 : decode cX10_wantedBy 14 = .ok (.istore_n 3, 1) := by decide +kernel
theorem dX10_wantedBy_15 : decode cX10_wantedBy 15 = .ok (.aload_n 0, 1) := by decide +kernel
theorem dX10_wantedBy_16 : decode cX10_wantedBy 16 = .ok (.getfield 79, 3) := by decide +kernel
theorem dX10_wantedBy_19 : decode cX10_wantedBy 19 = .ok (.iconst 1, 1) := by decide +kernel
theorem dX10_wantedBy_20 : decode cX10_wantedBy 20 = .ok (.isub, 1) := by decide +kernel
theorem dX10_wantedBy_21 : decode cX10_wantedBy 21 = .ok (.istore 5, 2) := by decide +kernel
theorem dX10_wantedBy_23 : decode cX10_wantedBy 23 = .ok (.iload 5, 2) := by decide +kernel
theorem dX10_wantedBy_25 : decode cX10_wantedBy 25 = .ok (.ifCond .lt 84, 3) := by decide +kernel
theorem dX10_wantedBy_28 : decode cX10_wantedBy 28 = .ok (.iload_n 2, 1) := by decide +kernel
theorem dX10_wantedBy_29 : decode cX10_wantedBy 29 = .ok (.iload 5, 2) := by decide +kernel
theorem dX10_wantedBy_31 : decode cX10_wantedBy 31 = .ok (.invokestatic 175, 3) := by decide +kernel
theorem dX10_wantedBy_34 : decode cX10_wantedBy 34 = .ok (.ifCond .ne 54, 3) := by decide +kernel
theorem dX10_wantedBy_37 : decode cX10_wantedBy 37 = .ok (.aload_n 0, 1) := by decide +kernel
theorem dX10_wantedBy_38 : decode cX10_wantedBy 38 = .ok (.iload 5, 2) := by decide +kernel
theorem dX10_wantedBy_40 : decode cX10_wantedBy 40 = .ok (.iload 4, 2) := by decide +kernel
theorem dX10_wantedBy_42 : decode cX10_wantedBy 42 = .ok (.invokevirtual 311, 3) := by decide +kernel
theorem dX10_wantedBy_45 : decode cX10_wantedBy 45 = .ok (.aload_n 0, 1) := by decide +kernel
theorem dX10_wantedBy_46 : decode cX10_wantedBy 46 = .ok (.getfield 57, 3) := by decide +kernel
theorem dX10_wantedBy_49 : decode cX10_wantedBy 49 = .ok (.sipush 256, 3) := by decide +kernel
theorem dX10_wantedBy_52 : decode cX10_wantedBy 52 = .ok (.iload 4, 2) := by decide +kernel
theorem dX10_wantedBy_54 : decode cX10_wantedBy 54 = .ok (.imul, 1) := by decide +kernel
theorem dX10_wantedBy_55 : decode cX10_wantedBy 55 = .ok (.sipush 256, 3) := by decide +kernel
theorem dX10_wantedBy_58 : decode cX10_wantedBy 58 = .ok (.iadd, 1) := by decide +kernel
theorem dX10_wantedBy_59 : decode cX10_wantedBy 59 = .ok (.iload_n 2, 1) := by decide +kernel
theorem dX10_wantedBy_60 : decode cX10_wantedBy 60 = .ok (.iconst 1, 1) := by decide +kernel
theorem dX10_wantedBy_61 : decode cX10_wantedBy 61 = .ok (.iload 5, 2) := by decide +kernel
theorem dX10_wantedBy_63 : decode cX10_wantedBy 63 = .ok (.ishl, 1) := by decide +kernel
theorem dX10_wantedBy_64 : decode cX10_wantedBy 64 = .ok (.ior, 1) := by decide +kernel
theorem dX10_wantedBy_65 : decode cX10_wantedBy 65 = .ok (.iadd, 1) := by decide +kernel
theorem dX10_wantedBy_66 : decode cX10_wantedBy 66 = .ok (.iaload, 1) := by decide +kernel
theorem dX10_wantedBy_67 : decode cX10_wantedBy 67 = .ok (.iadd, 1) := by decide +kernel
theorem dX10_wantedBy_68 : decode cX10_wantedBy 68 = .ok (.aload_n 0, 1) := by decide +kernel
theorem dX10_wantedBy_69 : decode cX10_wantedBy 69 = .ok (.getfield 57, 3) := by decide +kernel
theorem dX10_wantedBy_72 : decode cX10_wantedBy 72 = .ok (.sipush 256, 3) := by decide +kernel
theorem dX10_wantedBy_75 : decode cX10_wantedBy 75 = .ok (.iload 4, 2) := by decide +kernel
theorem dX10_wantedBy_77 : decode cX10_wantedBy 77 = .ok (.imul, 1) := by decide +kernel
theorem dX10_wantedBy_78 : decode cX10_wantedBy 78 = .ok (.iload_n 2, 1) := by decide +kernel
theorem dX10_wantedBy_79 : decode cX10_wantedBy 79 = .ok (.iadd, 1) := by decide +kernel
theorem dX10_wantedBy_80 : decode cX10_wantedBy 80 = .ok (.iaload, 1) := by decide +kernel
theorem dX10_wantedBy_81 : decode cX10_wantedBy 81 = .ok (.if_icmp .ne 7, 3) := by decide +kernel
theorem dX10_wantedBy_84 : decode cX10_wantedBy 84 = .ok (.iconst 1, 1) := by decide +kernel
theorem dX10_wantedBy_85 : decode cX10_wantedBy 85 = .ok (.goto 4, 3) := by decide +kernel
theorem dX10_wantedBy_88 : decode cX10_wantedBy 88 = .ok (.iconst 0, 1) := by decide +kernel
theorem dX10_wantedBy_89 : decode cX10_wantedBy 89 = .ok (.istore 6, 2) := by decide +kernel
theorem dX10_wantedBy_91 : decode cX10_wantedBy 91 = .ok (.iload 6, 2) := by decide +kernel
theorem dX10_wantedBy_93 : decode cX10_wantedBy 93 = .ok (.ifCond .eq 8, 3) := by decide +kernel
theorem dX10_wantedBy_96 : decode cX10_wantedBy 96 = .ok (.iload 5, 2) := by decide +kernel
theorem dX10_wantedBy_98 : decode cX10_wantedBy 98 = .ok (.goto 4, 3) := by decide +kernel
theorem dX10_wantedBy_101 : decode cX10_wantedBy 101 = .ok (.iload_n 3, 1) := by decide +kernel
theorem dX10_wantedBy_102 : decode cX10_wantedBy 102 = .ok (.istore_n 3, 1) := by decide +kernel
theorem dX10_wantedBy_103 : decode cX10_wantedBy 103 = .ok (.iinc 5 (-1), 3) := by decide +kernel
theorem dX10_wantedBy_106 : decode cX10_wantedBy 106 = .ok (.goto (-83), 3) := by decide +kernel
theorem dX10_wantedBy_109 : decode cX10_wantedBy 109 = .ok (.iload_n 2, 1) := by decide +kernel
theorem dX10_wantedBy_110 : decode cX10_wantedBy 110 = .ok (.iload_n 3, 1) := by decide +kernel
theorem dX10_wantedBy_111 : decode cX10_wantedBy 111 = .ok (.ifCond .ge 7, 3) := by decide +kernel
theorem dX10_wantedBy_114 : decode cX10_wantedBy 114 = .ok (.iconst 0, 1) := by decide +kernel
theorem dX10_wantedBy_115 : decode cX10_wantedBy 115 = .ok (.goto 6, 3) := by decide +kernel
theorem dX10_wantedBy_118 : decode cX10_wantedBy 118 = .ok (.iconst 1, 1) := by decide +kernel
theorem dX10_wantedBy_119 : decode cX10_wantedBy 119 = .ok (.iload_n 3, 1) := by decide +kernel
theorem dX10_wantedBy_120 : decode cX10_wantedBy 120 = .ok (.ishl, 1) := by decide +kernel
theorem dX10_wantedBy_121 : decode cX10_wantedBy 121 = .ok (.ior, 1) := by decide +kernel
theorem dX10_wantedBy_122 : decode cX10_wantedBy 122 = .ok (.istore_n 2, 1) := by decide +kernel
theorem dX10_wantedBy_123 : decode cX10_wantedBy 123 = .ok (.iinc 4 1, 3) := by decide +kernel
theorem dX10_wantedBy_126 : decode cX10_wantedBy 126 = .ok (.goto (-119), 3) := by decide +kernel
theorem dX10_wantedBy_129 : decode cX10_wantedBy 129 = .ok (.iload_n 3, 1) := by decide +kernel
theorem dX10_wantedBy_130 : decode cX10_wantedBy 130 = .ok (.ireturn, 1) := by decide +kernel
theorem dX10_wanted_0 : decode cX10_wanted 0 = .ok (.iload_n 1, 1) := by decide +kernel
theorem dX10_wanted_1 : decode cX10_wanted 1 = .ok (.iconst (-1), 1) := by decide +kernel
theorem dX10_wanted_2 : decode cX10_wanted 2 = .ok (.if_icmp .eq 14, 3) := by decide +kernel
theorem dX10_wanted_5 : decode cX10_wanted 5 = .ok (.aload_n 0, 1) := by decide +kernel
theorem dX10_wanted_6 : decode cX10_wanted 6 = .ok (.iload_n 1, 1) := by decide +kernel
theorem dX10_wanted_7 : decode cX10_wanted 7 = .ok (.invokevirtual 219, 3) := by decide +kernel
theorem dX10_wanted_10 : decode cX10_wanted 10 = .ok (.ifCond .ne 6, 3) := by decide +kernel
theorem dX10_wanted_13 : decode cX10_wanted 13 = .ok (.ldc 218, 2) := by decide +kernel
theorem dX10_wanted_15 : decode cX10_wanted 15 = .ok (.ireturn, 1) := by decide +kernel
theorem dX10_wanted_16 : decode cX10_wanted 16 = .ok (.aload_n 0, 1) := by decide +kernel
theorem dX10_wanted_17 : decode cX10_wanted 17 = .ok (.invokevirtual 314, 3) := by decide +kernel
theorem dX10_wanted_20 : decode cX10_wanted 20 = .ok (.iload_n 1, 1) := by decide +kernel
theorem dX10_wanted_21 : decode cX10_wanted 21 = .ok (.iconst (-1), 1) := by decide +kernel
theorem dX10_wanted_22 : decode cX10_wanted 22 = .ok (.if_icmp .ne 12, 3) := by decide +kernel
theorem dX10_wanted_25 : decode cX10_wanted 25 = .ok (.aload_n 0, 1) := by decide +kernel
theorem dX10_wanted_26 : decode cX10_wanted 26 = .ok (.getfield 57, 3) := by decide +kernel
theorem dX10_wanted_29 : decode cX10_wanted 29 = .ok (.iconst 0, 1) := by decide +kernel
theorem dX10_wanted_30 : decode cX10_wanted 30 = .ok (.iaload, 1) := by decide +kernel
theorem dX10_wanted_31 : decode cX10_wanted 31 = .ok (.goto 8, 3) := by decide +kernel
theorem dX10_wanted_34 : decode cX10_wanted 34 = .ok (.aload_n 0, 1) := by decide +kernel
theorem dX10_wanted_35 : decode cX10_wanted 35 = .ok (.iload_n 1, 1) := by decide +kernel
theorem dX10_wanted_36 : decode cX10_wanted 36 = .ok (.invokevirtual 317, 3) := by decide +kernel
theorem dX10_wanted_39 : decode cX10_wanted 39 = .ok (.ireturn, 1) := by decide +kernel
theorem dX10_whoKnows_0 : decode cX10_whoKnows 0 = .ok (.iconst 1, 1) := by decide +kernel
theorem dX10_whoKnows_1 : decode cX10_whoKnows 1 = .ok (.iload_n 1, 1) := by decide +kernel
theorem dX10_whoKnows_2 : decode cX10_whoKnows 2 = .ok (.ishl, 1) := by decide +kernel
theorem dX10_whoKnows_3 : decode cX10_whoKnows 3 = .ok (.istore_n 3, 1) := by decide +kernel
theorem dX10_whoKnows_4 : decode cX10_whoKnows 4 = .ok (.iconst 0, 1) := by decide +kernel
theorem dX10_whoKnows_5 : decode cX10_whoKnows 5 = .ok (.istore 4, 2) := by decide +kernel
theorem dX10_whoKnows_7 : decode cX10_whoKnows 7 = .ok (.iload 4, 2) := by decide +kernel
theorem dX10_whoKnows_9 : decode cX10_whoKnows 9 = .ok (.iload_n 2, 1) := by decide +kernel
theorem dX10_whoKnows_10 : decode cX10_whoKnows 10 = .ok (.if_icmp .ge 74, 3) := by decide +kernel
theorem dX10_whoKnows_13 : decode cX10_whoKnows 13 = .ok (.iload_n 3, 1) := by decide +kernel
theorem dX10_whoKnows_14 : decode cX10_whoKnows 14 = .ok (.istore 5, 2) := by decide +kernel
theorem dX10_whoKnows_16 : decode cX10_whoKnows 16 = .ok (.iconst 0, 1) := by decide +kernel
theorem dX10_whoKnows_17 : decode cX10_whoKnows 17 = .ok (.istore 6, 2) := by decide +kernel
theorem dX10_whoKnows_19 : decode cX10_whoKnows 19 = .ok (.iload 6, 2) := by decide +kernel
theorem dX10_whoKnows_21 : decode cX10_whoKnows 21 = .ok (.aload_n 0, 1) := by decide +kernel
theorem dX10_whoKnows_22 : decode cX10_whoKnows 22 = .ok (.getfield 72, 3) := by decide +kernel
theorem dX10_whoKnows_25 : decode cX10_whoKnows 25 = .ok (.if_icmp .ge 50, 3) := by decide +kernel
theorem dX10_whoKnows_28 : decode cX10_whoKnows 28 = .ok (.iload 5, 2) := by decide +kernel
theorem dX10_whoKnows_30 : decode cX10_whoKnows 30 = .ok (.iload_n 3, 1) := by decide +kernel
theorem dX10_whoKnows_31 : decode cX10_whoKnows 31 = .ok (.iload 6, 2) := by decide +kernel
theorem dX10_whoKnows_33 : decode cX10_whoKnows 33 = .ok (.invokestatic 175, 3) := by decide +kernel
theorem dX10_whoKnows_36 : decode cX10_whoKnows 36 = .ok (.ifCond .eq 29, 3) := by decide +kernel
theorem dX10_whoKnows_39 : decode cX10_whoKnows 39 = .ok (.iconst 1, 1) := by decide +kernel
theorem dX10_whoKnows_40 : decode cX10_whoKnows 40 = .ok (.iload 6, 2) := by decide +kernel
theorem dX10_whoKnows_42 : decode cX10_whoKnows 42 = .ok (.iconst 1, 1) := by decide +kernel
theorem dX10_whoKnows_43 : decode cX10_whoKnows 43 = .ok (.iadd, 1) := by decide +kernel
theorem dX10_whoKnows_44 : decode cX10_whoKnows 44 = .ok (.aload_n 0, 1) := by decide +kernel
theorem dX10_whoKnows_45 : decode cX10_whoKnows 45 = .ok (.getfield 72, 3) := by decide +kernel
theorem dX10_whoKnows_48 : decode cX10_whoKnows 48 = .ok (.irem, 1) := by decide +kernel
theorem dX10_whoKnows_49 : decode cX10_whoKnows 49 = .ok (.ishl, 1) := by decide +kernel
theorem dX10_whoKnows_50 : decode cX10_whoKnows 50 = .ok (.iconst 1, 1) := by decide +kernel
theorem dX10_whoKnows_51 : decode cX10_whoKnows 51 = .ok (.iload 6, 2) := by decide +kernel
theorem dX10_whoKnows_53 : decode cX10_whoKnows 53 = .ok (.iconst 3, 1) := by decide +kernel
theorem dX10_whoKnows_54 : decode cX10_whoKnows 54 = .ok (.iadd, 1) := by decide +kernel
theorem dX10_whoKnows_55 : decode cX10_whoKnows 55 = .ok (.aload_n 0, 1) := by decide +kernel
theorem dX10_whoKnows_56 : decode cX10_whoKnows 56 = .ok (.getfield 72, 3) := by decide +kernel
theorem dX10_whoKnows_59 : decode cX10_whoKnows 59 = .ok (.irem, 1) := by decide +kernel
theorem dX10_whoKnows_60 : decode cX10_whoKnows 60 = .ok (.ishl, 1) := by decide +kernel
theorem dX10_whoKnows_61 : decode cX10_whoKnows 61 = .ok (.ior, 1) := by decide +kernel
theorem dX10_whoKnows_62 : decode cX10_whoKnows 62 = .ok (.goto 4, 3) := by decide +kernel
theorem dX10_whoKnows_65 : decode cX10_whoKnows 65 = .ok (.iconst 0, 1) := by decide +kernel
theorem dX10_whoKnows_66 : decode cX10_whoKnows 66 = .ok (.ior, 1) := by decide +kernel
theorem dX10_whoKnows_67 : decode cX10_whoKnows 67 = .ok (.istore 5, 2) := by decide +kernel
theorem dX10_whoKnows_69 : decode cX10_whoKnows 69 = .ok (.iinc 6 1, 3) := by decide +kernel
theorem dX10_whoKnows_72 : decode cX10_whoKnows 72 = .ok (.goto (-53), 3) := by decide +kernel
theorem dX10_whoKnows_75 : decode cX10_whoKnows 75 = .ok (.iload 5, 2) := by decide +kernel
theorem dX10_whoKnows_77 : decode cX10_whoKnows 77 = .ok (.istore_n 3, 1) := by decide +kernel
theorem dX10_whoKnows_78 : decode cX10_whoKnows 78 = .ok (.iinc 4 1, 3) := by decide +kernel
theorem dX10_whoKnows_81 : decode cX10_whoKnows 81 = .ok (.goto (-74), 3) := by decide +kernel
theorem dX10_whoKnows_84 : decode cX10_whoKnows 84 = .ok (.iload_n 3, 1) := by decide +kernel
theorem dX10_whoKnows_85 : decode cX10_whoKnows 85 = .ok (.ireturn, 1) := by decide +kernel
theorem dX10_know_0 : decode cX10_know 0 = .ok (.aload_n 0, 1) := by decide +kernel
theorem dX10_know_1 : decode cX10_know 1 = .ok (.iload_n 1, 1) := by decide +kernel
theorem dX10_know_2 : decode cX10_know 2 = .ok (.invokevirtual 219, 3) := by decide +kernel
theorem dX10_know_5 : decode cX10_know 5 = .ok (.ifCond .ne 6, 3) := by decide +kernel
theorem dX10_know_8 : decode cX10_know 8 = .ok (.ldc 218, 2) := by decide +kernel
theorem dX10_know_10 : decode cX10_know 10 = .ok (.ireturn, 1) := by decide +kernel
theorem dX10_know_11 : decode cX10_know 11 = .ok (.iload_n 2, 1) := by decide +kernel
theorem dX10_know_12 : decode cX10_know 12 = .ok (.i2l, 1) := by decide +kernel
theorem dX10_know_13 : decode cX10_know 13 = .ok (.ldc2_w 320, 3) := by decide +kernel
theorem dX10_know_16 : decode cX10_know 16 = .ok (.ldc2_w 322, 3) := by decide +kernel
theorem dX10_know_19 : decode cX10_know 19 = .ok (.invokestatic 75, 3) := by decide +kernel
theorem dX10_know_22 : decode cX10_know 22 = .ok (.ifCond .ne 6, 3) := by decide +kernel
theorem dX10_know_25 : decode cX10_know 25 = .ok (.ldc 84, 2) := by decide +kernel
theorem dX10_know_27 : decode cX10_know 27 = .ok (.ireturn, 1) := by decide +kernel
theorem dX10_know_28 : decode cX10_know 28 = .ok (.iload_n 2, 1) := by decide +kernel
theorem dX10_know_29 : decode cX10_know 29 = .ok (.ifCond .lt 10, 3) := by decide +kernel
theorem dX10_know_32 : decode cX10_know 32 = .ok (.aload_n 0, 1) := by decide +kernel
theorem dX10_know_33 : decode cX10_know 33 = .ok (.iload_n 1, 1) := by decide +kernel
theorem dX10_know_34 : decode cX10_know 34 = .ok (.iload_n 2, 1) := by decide +kernel
theorem dX10_know_35 : decode cX10_know 35 = .ok (.invokevirtual 324, 3) := by decide +kernel
theorem dX10_know_38 : decode cX10_know 38 = .ok (.ireturn, 1) := by decide +kernel
theorem dX10_know_39 : decode cX10_know 39 = .ok (.iconst 0, 1) := by decide +kernel
theorem dX10_know_40 : decode cX10_know 40 = .ok (.istore_n 3, 1) := by decide +kernel
theorem dX10_know_41 : decode cX10_know 41 = .ok (.aload_n 0, 1) := by decide +kernel
theorem dX10_know_42 : decode cX10_know 42 = .ok (.iload_n 1, 1) := by decide +kernel
theorem dX10_know_43 : decode cX10_know 43 = .ok (.iload_n 3, 1) := by decide +kernel
theorem dX10_know_44 : decode cX10_know 44 = .ok (.invokevirtual 324, 3) := by decide +kernel
theorem dX10_know_47 : decode cX10_know 47 = .ok (.iconst 1, 1) := by decide +kernel
theorem dX10_know_48 : decode cX10_know 48 = .ok (.aload_n 0, 1) := by decide +kernel
theorem dX10_know_49 : decode cX10_know 49 = .ok (.getfield 72, 3) := by decide +kernel
theorem dX10_know_52 : decode cX10_know 52 = .ok (.ishl, 1) := by decide +kernel
theorem dX10_know_53 : decode cX10_know 53 = .ok (.iconst 1, 1) := by decide +kernel
theorem dX10_know_54 : decode cX10_know 54 = .ok (.isub, 1) := by decide +kernel
theorem dX10_know_55 : decode cX10_know 55 = .ok (.if_icmp .eq 9, 3) := by decide +kernel
theorem dX10_know_58 : decode cX10_know 58 = .ok (.iinc 3 1, 3) := by decide +kernel
theorem dX10_know_61 : decode cX10_know 61 = .ok (.goto (-20), 3) := by decide +kernel
theorem dX10_know_64 : decode cX10_know 64 = .ok (.iload_n 3, 1) := by decide +kernel
theorem dX10_know_65 : decode cX10_know 65 = .ok (.ireturn, 1) := by decide +kernel
theorem dX10_parcels_0 : decode cX10_parcels 0 = .ok (.iload_n 1, 1) := by decide +kernel
theorem dX10_parcels_1 : decode cX10_parcels 1 = .ok (.i2l, 1) := by decide +kernel
theorem dX10_parcels_2 : decode cX10_parcels 2 = .ok (.lconst 0, 1) := by decide +kernel
theorem dX10_parcels_3 : decode cX10_parcels 3 = .ok (.ldc2_w 252, 3) := by decide +kernel
theorem dX10_parcels_6 : decode cX10_parcels 6 = .ok (.invokestatic 75, 3) := by decide +kernel
theorem dX10_parcels_9 : decode cX10_parcels 9 = .ok (.ifCond .eq 15, 3) := by decide +kernel
theorem dX10_parcels_12 : decode cX10_parcels 12 = .ok (.iload_n 2, 1) := by decide +kernel
theorem dX10_parcels_13 : decode cX10_parcels 13 = .ok (.i2l, 1) := by decide +kernel
theorem dX10_parcels_14 : decode cX10_parcels 14 = .ok (.lconst 0, 1) := by decide +kernel
theorem dX10_parcels_15 : decode cX10_parcels 15 = .ok (.ldc2_w 276, 3) := by decide +kernel
theorem dX10_parcels_18 : decode cX10_parcels 18 = .ok (.invokestatic 75, 3) := by decide +kernel
theorem dX10_parcels_21 : decode cX10_parcels 21 = .ok (.ifCond .ne 6, 3) := by decide +kernel
theorem dX10_parcels_24 : decode cX10_parcels 24 = .ok (.ldc 84, 2) := by decide +kernel
theorem dX10_parcels_26 : decode cX10_parcels 26 = .ok (.ireturn, 1) := by decide +kernel
theorem dX10_parcels_27 : decode cX10_parcels 27 = .ok (.ldc2_w 327, 3) := by decide +kernel
theorem dX10_parcels_30 : decode cX10_parcels 30 = .ok (.lstore_n 3, 1) := by decide +kernel
theorem dX10_parcels_31 : decode cX10_parcels 31 = .ok (.iconst 0, 1) := by decide +kernel
theorem dX10_parcels_32 : decode cX10_parcels 32 = .ok (.istore 5, 2) := by decide +kernel
theorem dX10_parcels_34 : decode cX10_parcels 34 = .ok (.iload 5, 2) := by decide +kernel
theorem dX10_parcels_36 : decode cX10_parcels 36 = .ok (.iload_n 1, 1) := by decide +kernel
theorem dX10_parcels_37 : decode cX10_parcels 37 = .ok (.if_icmp .ge 21, 3) := by decide +kernel
theorem dX10_parcels_40 : decode cX10_parcels 40 = .ok (.lload_n 3, 1) := by decide +kernel
theorem dX10_parcels_41 : decode cX10_parcels 41 = .ok (.bipush 100, 2) := by decide +kernel
theorem dX10_parcels_43 : decode cX10_parcels 43 = .ok (.iload_n 2, 1) := by decide +kernel
theorem dX10_parcels_44 : decode cX10_parcels 44 = .ok (.isub, 1) := by decide +kernel
theorem dX10_parcels_45 : decode cX10_parcels 45 = .ok (.i2l, 1) := by decide +kernel
theorem dX10_parcels_46 : decode cX10_parcels 46 = .ok (.lmul, 1) := by decide +kernel
theorem dX10_parcels_47 : decode cX10_parcels 47 = .ok (.ldc2_w 276, 3) := by decide +kernel
theorem dX10_parcels_50 : decode cX10_parcels 50 = .ok (.ldiv, 1) := by decide +kernel
theorem dX10_parcels_51 : decode cX10_parcels 51 = .ok (.lstore_n 3, 1) := by decide +kernel
theorem dX10_parcels_52 : decode cX10_parcels 52 = .ok (.iinc 5 1, 3) := by decide +kernel
theorem dX10_parcels_55 : decode cX10_parcels 55 = .ok (.goto (-21), 3) := by decide +kernel
theorem dX10_parcels_58 : decode cX10_parcels 58 = .ok (.lload_n 3, 1) := by decide +kernel
theorem dX10_parcels_59 : decode cX10_parcels 59 = .ok (.l2i, 1) := by decide +kernel
theorem dX10_parcels_60 : decode cX10_parcels 60 = .ok (.ireturn, 1) := by decide +kernel
theorem dX10_write_0 : decode cX10_write 0 = .ok (.aload_n 0, 1) := by decide +kernel
theorem dX10_write_1 : decode cX10_write 1 = .ok (.iload_n 1, 1) := by decide +kernel
theorem dX10_write_2 : decode cX10_write 2 = .ok (.invokevirtual 215, 3) := by decide +kernel
theorem dX10_write_5 : decode cX10_write 5 = .ok (.ifCond .eq 11, 3) := by decide +kernel
theorem dX10_write_8 : decode cX10_write 8 = .ok (.aload_n 0, 1) := by decide +kernel
theorem dX10_write_9 : decode cX10_write 9 = .ok (.iload_n 2, 1) := by decide +kernel
theorem dX10_write_10 : decode cX10_write 10 = .ok (.invokevirtual 219, 3) := by decide +kernel
theorem dX10_write_13 : decode cX10_write 13 = .ok (.ifCond .ne 6, 3) := by decide +kernel
theorem dX10_write_16 : decode cX10_write 16 = .ok (.ldc 218, 2) := by decide +kernel
theorem dX10_write_18 : decode cX10_write 18 = .ok (.ireturn, 1) := by decide +kernel
theorem dX10_write_19 : decode cX10_write 19 = .ok (.aload_n 0, 1) := by decide +kernel
theorem dX10_write_20 : decode cX10_write 20 = .ok (.getfield 169, 3) := by decide +kernel
theorem dX10_write_23 : decode cX10_write 23 = .ok (.bipush 15, 2) := by decide +kernel
theorem dX10_write_25 : decode cX10_write 25 = .ok (.if_icmp .ne 6, 3) := by decide +kernel
theorem dX10_write_28 : decode cX10_write 28 = .ok (.ldc 88, 2) := by decide +kernel
theorem dX10_write_30 : decode cX10_write 30 = .ok (.ireturn, 1) := by decide +kernel
theorem dX10_write_31 : decode cX10_write 31 = .ok (.aload_n 0, 1) := by decide +kernel
theorem dX10_write_32 : decode cX10_write 32 = .ok (.getfield 60, 3) := by decide +kernel
theorem dX10_write_35 : decode cX10_write 35 = .ok (.aload_n 0, 1) := by decide +kernel
theorem dX10_write_36 : decode cX10_write 36 = .ok (.getfield 169, 3) := by decide +kernel
theorem dX10_write_39 : decode cX10_write 39 = .ok (.iload_n 1, 1) := by decide +kernel
