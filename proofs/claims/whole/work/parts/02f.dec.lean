theorem dX10_told_137 : decode cX10_told 137 = .ok (.invokevirtual 203, 3) := by decide +kernel
theorem dX10_told_140 : decode cX10_told 140 = .ok (.ireturn, 1) := by decide +kernel
theorem dX10_told_141 : decode cX10_told 141 = .ok (.aload_n 0, 1) := by decide +kernel
theorem dX10_told_142 : decode cX10_told 142 = .ok (.getfield 22, 3) := by decide +kernel
theorem dX10_told_145 : decode cX10_told 145 = .ok (.bipush 34, 2) := by decide +kernel
theorem dX10_told_147 : decode cX10_told 147 = .ok (.iaload, 1) := by decide +kernel
theorem dX10_told_148 : decode cX10_told 148 = .ok (.ireturn, 1) := by decide +kernel
theorem dX10_told_149 : decode cX10_told 149 = .ok (.aload_n 0, 1) := by decide +kernel
theorem dX10_told_150 : decode cX10_told 150 = .ok (.getfield 22, 3) := by decide +kernel
theorem dX10_told_153 : decode cX10_told 153 = .ok (.bipush 35, 2) := by decide +kernel
theorem dX10_told_155 : decode cX10_told 155 = .ok (.iaload, 1) := by decide +kernel
theorem dX10_told_156 : decode cX10_told 156 = .ok (.ireturn, 1) := by decide +kernel
theorem dX10_told_157 : decode cX10_told 157 = .ok (.aload_n 0, 1) := by decide +kernel
theorem dX10_told_158 : decode cX10_told 158 = .ok (.invokevirtual 206, 3) := by decide +kernel
theorem dX10_told_161 : decode cX10_told 161 = .ok (.ireturn, 1) := by decide +kernel
theorem dX10_told_162 : decode cX10_told 162 = .ok (.aload_n 0, 1) := by decide +kernel
theorem dX10_told_163 : decode cX10_told 163 = .ok (.invokevirtual 209, 3) := by decide +kernel
theorem dX10_told_166 : decode cX10_told 166 = .ok (.ireturn, 1) := by decide +kernel
theorem dX10_told_167 : decode cX10_told 167 = .ok (.aload_n 0, 1) := by decide +kernel
theorem dX10_told_168 : decode cX10_told 168 = .ok (.invokevirtual 212, 3) := by decide +kernel
theorem dX10_told_171 : decode cX10_told 171 = .ok (.ireturn, 1) := by decide +kernel
theorem dX10_told_172 : decode cX10_told 172 = .ok (.aload_n 0, 1) := by decide +kernel
theorem dX10_told_173 : decode cX10_told 173 = .ok (.getfield 169, 3) := by decide +kernel
theorem dX10_told_176 : decode cX10_told 176 = .ok (.ireturn, 1) := by decide +kernel
theorem dX10_told_177 : decode cX10_told 177 = .ok (.aload_n 0, 1) := by decide +kernel
theorem dX10_told_178 : decode cX10_told 178 = .ok (.getfield 172, 3) := by decide +kernel
theorem dX10_told_181 : decode cX10_told 181 = .ok (.ireturn, 1) := by decide +kernel
theorem dX10_told_182 : decode cX10_told 182 = .ok (.ldc 84, 2) := by decide +kernel
theorem dX10_told_184 : decode cX10_told 184 = .ok (.ireturn, 1) := by decide +kernel
theorem dX10_doll_0 : decode cX10_doll 0 = .ok (.aload_n 0, 1) := by decide +kernel
theorem dX10_doll_1 : decode cX10_doll 1 = .ok (.iload_n 1, 1) := by decide +kernel
theorem dX10_doll_2 : decode cX10_doll 2 = .ok (.invokevirtual 215, 3) := by decide +kernel
theorem dX10_doll_5 : decode cX10_doll 5 = .ok (.ifCond .ne 6, 3) := by decide +kernel
theorem dX10_doll_8 : decode cX10_doll 8 = .ok (.ldc 218, 2) := by decide +kernel
theorem dX10_doll_10 : decode cX10_doll 10 = .ok (.ireturn, 1) := by decide +kernel
theorem dX10_doll_11 : decode cX10_doll 11 = .ok (.iload_n 2, 1) := by decide +kernel
theorem dX10_doll_12 : decode cX10_doll 12 = .ok (.tableswitch 107 0 6 #[44, 51, 58, 65, 75, 85, 97], 44) := by decide +kernel
theorem dX10_doll_56 : decode cX10_doll 56 = .ok (.aload_n 0, 1) := by decide +kernel
theorem dX10_doll_57 : decode cX10_doll 57 = .ok (.getfield 13, 3) := by decide +kernel
theorem dX10_doll_60 : decode cX10_doll 60 = .ok (.iload_n 1, 1) := by decide +kernel
theorem dX10_doll_61 : decode cX10_doll 61 = .ok (.iaload, 1) := by decide +kernel
theorem dX10_doll_62 : decode cX10_doll 62 = .ok (.ireturn, 1) := by decide +kernel
theorem dX10_doll_63 : decode cX10_doll 63 = .ok (.aload_n 0, 1) := by decide +kernel
theorem dX10_doll_64 : decode cX10_doll 64 = .ok (.getfield 16, 3) := by decide +kernel
theorem dX10_doll_67 : decode cX10_doll 67 = .ok (.iload_n 1, 1) := by decide +kernel
theorem dX10_doll_68 : decode cX10_doll 68 = .ok (.iaload, 1) := by decide +kernel
theorem dX10_doll_69 : decode cX10_doll 69 = .ok (.ireturn, 1) := by decide +kernel
theorem dX10_doll_70 : decode cX10_doll 70 = .ok (.aload_n 0, 1) := by decide +kernel
theorem dX10_doll_71 : decode cX10_doll 71 = .ok (.getfield 22, 3) := by decide +kernel
theorem dX10_doll_74 : decode cX10_doll 74 = .ok (.iload_n 1, 1) := by decide +kernel
theorem dX10_doll_75 : decode cX10_doll 75 = .ok (.iaload, 1) := by decide +kernel
theorem dX10_doll_76 : decode cX10_doll 76 = .ok (.ireturn, 1) := by decide +kernel
theorem dX10_doll_77 : decode cX10_doll 77 = .ok (.aload_n 0, 1) := by decide +kernel
theorem dX10_doll_78 : decode cX10_doll 78 = .ok (.getfield 22, 3) := by decide +kernel
theorem dX10_doll_81 : decode cX10_doll 81 = .ok (.bipush 17, 2) := by decide +kernel
theorem dX10_doll_83 : decode cX10_doll 83 = .ok (.iload_n 1, 1) := by decide +kernel
theorem dX10_doll_84 : decode cX10_doll 84 = .ok (.iadd, 1) := by decide +kernel
theorem dX10_doll_85 : decode cX10_doll 85 = .ok (.iaload, 1) := by decide +kernel
theorem dX10_doll_86 : decode cX10_doll 86 = .ok (.ireturn, 1) := by decide +kernel
theorem dX10_doll_87 : decode cX10_doll 87 = .ok (.aload_n 0, 1) := by decide +kernel
theorem dX10_doll_88 : decode cX10_doll 88 = .ok (.getfield 22, 3) := by decide +kernel
theorem dX10_doll_91 : decode cX10_doll 91 = .ok (.bipush 9, 2) := by decide +kernel
theorem dX10_doll_93 : decode cX10_doll 93 = .ok (.iload_n 1, 1) := by decide +kernel
theorem dX10_doll_94 : decode cX10_doll 94 = .ok (.iadd, 1) := by decide +kernel
theorem dX10_doll_95 : decode cX10_doll 95 = .ok (.iaload, 1) := by decide +kernel
theorem dX10_doll_96 : decode cX10_doll 96 = .ok (.ireturn, 1) := by decide +kernel
theorem dX10_doll_97 : decode cX10_doll 97 = .ok (.aload_n 0, 1) := by decide +kernel
theorem dX10_doll_98 : decode cX10_doll 98 = .ok (.getfield 22, 3) := by decide +kernel
theorem dX10_doll_101 : decode cX10_doll 101 = .ok (.bipush 8, 2) := by decide +kernel
theorem dX10_doll_103 : decode cX10_doll 103 = .ok (.iaload, 1) := by decide +kernel
theorem dX10_doll_104 : decode cX10_doll 104 = .ok (.iload_n 1, 1) := by decide +kernel
theorem dX10_doll_105 : decode cX10_doll 105 = .ok (.ishr, 1) := by decide +kernel
theorem dX10_doll_106 : decode cX10_doll 106 = .ok (.iconst 1, 1) := by decide +kernel
theorem dX10_doll_107 : decode cX10_doll 107 = .ok (.iand, 1) := by decide +kernel
theorem dX10_doll_108 : decode cX10_doll 108 = .ok (.ireturn, 1) := by decide +kernel
theorem dX10_doll_109 : decode cX10_doll 109 = .ok (.aload_n 0, 1) := by decide +kernel
theorem dX10_doll_110 : decode cX10_doll 110 = .ok (.getfield 22, 3) := by decide +kernel
theorem dX10_doll_113 : decode cX10_doll 113 = .ok (.bipush 25, 2) := by decide +kernel
theorem dX10_doll_115 : decode cX10_doll 115 = .ok (.iload_n 1, 1) := by decide +kernel
theorem dX10_doll_116 : decode cX10_doll 116 = .ok (.iadd, 1) := by decide +kernel
theorem dX10_doll_117 : decode cX10_doll 117 = .ok (.iaload, 1) := by decide +kernel
theorem dX10_doll_118 : decode cX10_doll 118 = .ok (.ireturn, 1) := by decide +kernel
theorem dX10_doll_119 : decode cX10_doll 119 = .ok (.ldc 84, 2) := by decide +kernel
theorem dX10_doll_121 : decode cX10_doll 121 = .ok (.ireturn, 1) := by decide +kernel
theorem dX10_court_0 : decode cX10_court 0 = .ok (.aload_n 0, 1) := by decide +kernel
theorem dX10_court_1 : decode cX10_court 1 = .ok (.iload_n 1, 1) := by decide +kernel
theorem dX10_court_2 : decode cX10_court 2 = .ok (.invokevirtual 219, 3) := by decide +kernel
theorem dX10_court_5 : decode cX10_court 5 = .ok (.ifCond .ne 6, 3) := by decide +kernel
theorem dX10_court_8 : decode cX10_court 8 = .ok (.ldc 218, 2) := by decide +kernel
theorem dX10_court_10 : decode cX10_court 10 = .ok (.ireturn, 1) := by decide +kernel
theorem dX10_court_11 : decode cX10_court 11 = .ok (.iload_n 2, 1) := by decide +kernel
theorem dX10_court_12 : decode cX10_court 12 = .ok (.tableswitch 75 0 4 #[36, 43, 49, 55, 69], 36) := by decide +kernel
theorem dX10_court_48 : decode cX10_court 48 = .ok (.aload_n 0, 1) := by decide +kernel
theorem dX10_court_49 : decode cX10_court 49 = .ok (.getfield 7, 3) := by decide +kernel
theorem dX10_court_52 : decode cX10_court 52 = .ok (.iload_n 1, 1) := by decide +kernel
theorem dX10_court_53 : decode cX10_court 53 = .ok (.iaload, 1) := by decide +kernel
theorem dX10_court_54 : decode cX10_court 54 = .ok (.ireturn, 1) := by decide +kernel
theorem dX10_court_55 : decode cX10_court 55 = .ok (.aload_n 0, 1) := by decide +kernel
theorem dX10_court_56 : decode cX10_court 56 = .ok (.iload_n 1, 1) := by decide +kernel
theorem dX10_court_57 : decode cX10_court 57 = .ok (.invokevirtual 179, 3) := by decide +kernel
theorem dX10_court_60 : decode cX10_court 60 = .ok (.ireturn, 1) := by decide +kernel
theorem dX10_court_61 : decode cX10_court 61 = .ok (.aload_n 0, 1) := by decide +kernel
theorem dX10_court_62 : decode cX10_court 62 = .ok (.iload_n 1, 1) := by decide +kernel
theorem dX10_court_63 : decode cX10_court 63 = .ok (.invokevirtual 222, 3) := by decide +kernel
theorem dX10_court_66 : decode cX10_court 66 = .ok (.ireturn, 1) := by decide +kernel
theorem dX10_court_67 : decode cX10_court 67 = .ok (.aload_n 0, 1) := by decide +kernel
theorem dX10_court_68 : decode cX10_court 68 = .ok (.iload_n 1, 1) := by decide +kernel
theorem dX10_court_69 : decode cX10_court 69 = .ok (.invokevirtual 182, 3) := by decide +kernel
theorem dX10_court_72 : decode cX10_court 72 = .ok (.ifCond .eq 7, 3) := by decide +kernel
theorem dX10_court_75 : decode cX10_court 75 = .ok (.iconst 1, 1) := by decide +kernel
theorem dX10_court_76 : decode cX10_court 76 = .ok (.goto 4, 3) := by decide +kernel
theorem dX10_court_79 : decode cX10_court 79 = .ok (.iconst 0, 1) := by decide +kernel
theorem dX10_court_80 : decode cX10_court 80 = .ok (.ireturn, 1) := by decide +kernel
theorem dX10_court_81 : decode cX10_court 81 = .ok (.aload_n 0, 1) := by decide +kernel
theorem dX10_court_82 : decode cX10_court 82 = .ok (.iload_n 1, 1) := by decide +kernel
theorem dX10_court_83 : decode cX10_court 83 = .ok (.invokevirtual 225, 3) := by decide +kernel
theorem dX10_court_86 : decode cX10_court 86 = .ok (.ireturn, 1) := by decide +kernel
theorem dX10_court_87 : decode cX10_court 87 = .ok (.ldc 84, 2) := by decide +kernel
theorem dX10_court_89 : decode cX10_court 89 = .ok (.ireturn, 1) := by decide +kernel
theorem dX10_moreWarm_0 : decode cX10_moreWarm 0 = .ok (.aload_n 0, 1) := by decide +kernel
theorem dX10_moreWarm_1 : decode cX10_moreWarm 1 = .ok (.getfield 22, 3) := by decide +kernel
theorem dX10_moreWarm_4 : decode cX10_moreWarm 4 = .ok (.bipush 8, 2) := by decide +kernel
theorem dX10_moreWarm_6 : decode cX10_moreWarm 6 = .ok (.iaload, 1) := by decide +kernel
theorem dX10_moreWarm_7 : decode cX10_moreWarm 7 = .ok (.iload_n 1, 1) := by decide +kernel
theorem dX10_moreWarm_8 : decode cX10_moreWarm 8 = .ok (.invokestatic 175, 3) := by decide +kernel
theorem dX10_moreWarm_11 : decode cX10_moreWarm 11 = .ok (.ifCond .ne 5, 3) := by decide +kernel
theorem dX10_moreWarm_14 : decode cX10_moreWarm 14 = .ok (.iconst (-1), 1) := by decide +kernel
theorem dX10_moreWarm_15 : decode cX10_moreWarm 15 = .ok (.ireturn, 1) := by decide +kernel
theorem dX10_moreWarm_16 : decode cX10_moreWarm 16 = .ok (.aload_n 0, 1) := by decide +kernel
theorem dX10_moreWarm_17 : decode cX10_moreWarm 17 = .ok (.getfield 13, 3) := by decide +kernel
theorem dX10_moreWarm_20 : decode cX10_moreWarm 20 = .ok (.iload_n 1, 1) := by decide +kernel
theorem dX10_moreWarm_21 : decode cX10_moreWarm 21 = .ok (.iaload, 1) := by decide +kernel
theorem dX10_moreWarm_22 : decode cX10_moreWarm 22 = .ok (.tableswitch 52 0 3 #[30, 52, 32, 34], 30) := by decide +kernel
theorem dX10_moreWarm_52 : decode cX10_moreWarm 52 = .ok (.iconst 1, 1) := by decide +kernel
theorem dX10_moreWarm_53 : decode cX10_moreWarm 53 = .ok (.ireturn, 1) := by decide +kernel
theorem dX10_moreWarm_54 : decode cX10_moreWarm 54 = .ok (.iconst 3, 1) := by decide +kernel
theorem dX10_moreWarm_55 : decode cX10_moreWarm 55 = .ok (.ireturn, 1) := by decide +kernel
theorem dX10_moreWarm_56 : decode cX10_moreWarm 56 = .ok (.aload_n 0, 1) := by decide +kernel
theorem dX10_moreWarm_57 : decode cX10_moreWarm 57 = .ok (.getfield 22, 3) := by decide +kernel
theorem dX10_moreWarm_60 : decode cX10_moreWarm 60 = .ok (.bipush 33, 2) := by decide +kernel
theorem dX10_moreWarm_62 : decode cX10_moreWarm 62 = .ok (.iaload, 1) := by decide +kernel
theorem dX10_moreWarm_63 : decode cX10_moreWarm 63 = .ok (.iconst 2, 1) := by decide +kernel
theorem dX10_moreWarm_64 : decode cX10_moreWarm 64 = .ok (.irem, 1) := by decide +kernel
theorem dX10_moreWarm_65 : decode cX10_moreWarm 65 = .ok (.ifCond .ne 7, 3) := by decide +kernel
theorem dX10_moreWarm_68 : decode cX10_moreWarm 68 = .ok (.iconst 2, 1) := by decide +kernel
theorem dX10_moreWarm_69 : decode cX10_moreWarm 69 = .ok (.goto 4, 3) := by decide +kernel
theorem dX10_moreWarm_72 : decode cX10_moreWarm 72 = .ok (.iconst 0, 1) := by decide +kernel
theorem dX10_moreWarm_73 : decode cX10_moreWarm 73 = .ok (.ireturn, 1) := by decide +kernel
theorem dX10_moreWarm_74 : decode cX10_moreWarm 74 = .ok (.iconst 0, 1) := by decide +kernel
theorem dX10_moreWarm_75 : decode cX10_moreWarm 75 = .ok (.ireturn, 1) := by decide +kernel
theorem dX10_pass_0 : decode cX10_pass 0 = .ok (.iconst 0, 1) := by decide +kernel
theorem dX10_pass_1 : decode cX10_pass 1 = .ok (.istore_n 1, 1) := by decide +kernel
theorem dX10_pass_2 : decode cX10_pass 2 = .ok (.iload_n 1, 1) := by decide +kernel
theorem dX10_pass_3 : decode cX10_pass 3 = .ok (.aload_n 0, 1) := by decide +kernel
theorem dX10_pass_4 : decode cX10_pass 4 = .ok (.getfield 79, 3) := by decide +kernel
theorem dX10_pass_7 : decode cX10_pass 7 = .ok (.if_icmp .ge 133, 3) := by decide +kernel
theorem dX10_pass_10 : decode cX10_pass 10 = .ok (.aload_n 0, 1) := by decide +kernel
theorem dX10_pass_11 : decode cX10_pass 11 = .ok (.getfield 22, 3) := by decide +kernel
theorem dX10_pass_14 : decode cX10_pass 14 = .ok (.bipush 9, 2) := by decide +kernel
theorem dX10_pass_16 : decode cX10_pass 16 = .ok (.iload_n 1, 1) := by decide +kernel
theorem dX10_pass_17 : decode cX10_pass 17 = .ok (.iadd, 1) := by decide +kernel
theorem dX10_pass_18 : decode cX10_pass 18 = .ok (.iaload, 1) := by decide +kernel
theorem dX10_pass_19 : decode cX10_pass 19 = .ok (.aload_n 0, 1) := by decide +kernel
theorem dX10_pass_20 : decode cX10_pass 20 = .ok (.iload_n 1, 1) := by decide +kernel
theorem dX10_pass_21 : decode cX10_pass 21 = .ok (.invokevirtual 228, 3) := by decide +kernel
theorem dX10_pass_24 : decode cX10_pass 24 = .ok (.iadd, 1) := by decide +kernel
theorem dX10_pass_25 : decode cX10_pass 25 = .ok (.istore_n 2, 1) := by decide +kernel
theorem dX10_pass_26 : decode cX10_pass 26 = .ok (.aload_n 0, 1) := by decide +kernel
theorem dX10_pass_27 : decode cX10_pass 27 = .ok (.getfield 22, 3) := by decide +kernel
theorem dX10_pass_30 : decode cX10_pass 30 = .ok (.bipush 9, 2) := by decide +kernel
theorem dX10_pass_32 : decode cX10_pass 32 = .ok (.iload_n 1, 1) := by decide +kernel
theorem dX10_pass_33 : decode cX10_pass 33 = .ok (.iadd, 1) := by decide +kernel
theorem dX10_pass_34 : decode cX10_pass 34 = .ok (.iload_n 2, 1) := by decide +kernel
theorem dX10_pass_35 : decode cX10_pass 35 = .ok (.ifCond .ge 7, 3) := by decide +kernel
theorem dX10_pass_38 : decode cX10_pass 38 = .ok (.iconst 0, 1) := by decide +kernel
theorem dX10_pass_39 : decode cX10_pass 39 = .ok (.goto 15, 3) := by decide +kernel
theorem dX10_pass_42 : decode cX10_pass 42 = .ok (.iload_n 2, 1) := by decide +kernel
theorem dX10_pass_43 : decode cX10_pass 43 = .ok (.bipush 99, 2) := by decide +kernel
theorem dX10_pass_45 : decode cX10_pass 45 = .ok (.if_icmp .le 8, 3) := by decide +kernel
theorem dX10_pass_48 : decode cX10_pass 48 = .ok (.bipush 99, 2) := by decide +kernel
theorem dX10_pass_50 : decode cX10_pass 50 = .ok (.goto 4, 3) := by decide +kernel
theorem dX10_pass_53 : decode cX10_pass 53 = .ok (.iload_n 2, 1) := by decide +kernel
theorem dX10_pass_54 : decode cX10_pass 54 = .ok (.iastore, 1) := by decide +kernel
theorem dX10_pass_55 : decode cX10_pass 55 = .ok (.aload_n 0, 1) := by decide +kernel
theorem dX10_pass_56 : decode cX10_pass 56 = .ok (.getfield 13, 3) := by decide +kernel
theorem dX10_pass_59 : decode cX10_pass 59 = .ok (.iload_n 1, 1) := by decide +kernel
theorem dX10_pass_60 : decode cX10_pass 60 = .ok (.iaload, 1) := by decide +kernel
theorem dX10_pass_61 : decode cX10_pass 61 = .ok (.iconst 2, 1) := by decide +kernel
theorem dX10_pass_62 : decode cX10_pass 62 = .ok (.if_icmp .ne 35, 3) := by decide +kernel
theorem dX10_pass_65 : decode cX10_pass 65 = .ok (.aload_n 0, 1) := by decide +kernel
theorem dX10_pass_66 : decode cX10_pass 66 = .ok (.getfield 22, 3) := by decide +kernel
theorem dX10_pass_69 : decode cX10_pass 69 = .ok (.bipush 8, 2) := by decide +kernel
theorem dX10_pass_71 : decode cX10_pass 71 = .ok (.iaload, 1) := by decide +kernel
theorem dX10_pass_72 : decode cX10_pass 72 = .ok (.iload_n 1, 1) := by decide +kernel
theorem dX10_pass_73 : decode cX10_pass 73 = .ok (.invokestatic 175, 3) := by decide +kernel
theorem dX10_pass_76 : decode cX10_pass 76 = .ok (.ifCond .eq 21, 3) := by decide +kernel
theorem dX10_pass_79 : decode cX10_pass 79 = .ok (.aload_n 0, 1) := by decide +kernel
theorem dX10_pass_80 : decode cX10_pass 80 = .ok (.getfield 22, 3) := by decide +kernel
theorem dX10_pass_83 : decode cX10_pass 83 = .ok (.bipush 9, 2) := by decide +kernel
theorem dX10_pass_85 : decode cX10_pass 85 = .ok (.iload_n 1, 1) := by decide +kernel
theorem dX10_pass_86 : decode cX10_pass 86 = .ok (.iadd, 1) := by decide +kernel
theorem dX10_pass_87 : decode cX10_pass 87 = .ok (.iaload, 1) := by decide +kernel
theorem dX10_pass_88 : decode cX10_pass 88 = .ok (.bipush 20, 2) := by decide +kernel
theorem dX10_pass_90 : decode cX10_pass 90 = .ok (.if_icmp .lt 7, 3) := by decide +kernel
theorem dX10_pass_93 : decode cX10_pass 93 = .ok (.iconst 1, 1) := by decide +kernel
theorem dX10_pass_94 : decode cX10_pass 94 = .ok (.goto 4, 3) := by decide +kernel
theorem dX10_pass_97 : decode cX10_pass 97 = .ok (.iconst 0, 1) := by decide +kernel
theorem dX10_pass_98 : decode cX10_pass 98 = .ok (.istore_n 3, 1) := by decide +kernel
theorem dX10_pass_99 : decode cX10_pass 99 = .ok (.aload_n 0, 1) := by decide +kernel
theorem dX10_pass_100 : decode cX10_pass 100 = .ok (.getfield 22, 3) := by decide +kernel
theorem dX10_pass_103 : decode cX10_pass 103 = .ok (.bipush 25, 2) := by decide +kernel
theorem dX10_pass_105 : decode cX10_pass 105 = .ok (.iload_n 1, 1) := by decide +kernel
theorem dX10_pass_106 : decode cX10_pass 106 = .ok (.iadd, 1) := by decide +kernel
theorem dX10_pass_107 : decode cX10_pass 107 = .ok (.dup2, 1) := by decide +kernel
theorem dX10_pass_108 : decode cX10_pass 108 = .ok (.iaload, 1) := by decide +kernel
theorem dX10_pass_109 : decode cX10_pass 109 = .ok (.iload_n 3, 1) := by decide +kernel
theorem dX10_pass_110 : decode cX10_pass 110 = .ok (.ifCond .eq 21, 3) := by decide +kernel
theorem dX10_pass_113 : decode cX10_pass 113 = .ok (.aload_n 0, 1) := by decide +kernel
theorem dX10_pass_114 : decode cX10_pass 114 = .ok (.getfield 22, 3) := by decide +kernel
theorem dX10_pass_117 : decode cX10_pass 117 = .ok (.bipush 25, 2) := by decide +kernel
theorem dX10_pass_119 : decode cX10_pass 119 = .ok (.iload_n 1, 1) := by decide +kernel
theorem dX10_pass_120 : decode cX10_pass 120 = .ok (.iadd, 1) := by decide +kernel
theorem dX10_pass_121 : decode cX10_pass 121 = .ok (.iaload, 1) := by decide +kernel
theorem dX10_pass_122 : decode cX10_pass 122 = .ok (.ldc 231, 2) := by decide +kernel
theorem dX10_pass_124 : decode cX10_pass 124 = .ok (.if_icmp .ge 7, 3) := by decide +kernel
theorem dX10_pass_127 : decode cX10_pass 127 = .ok (.iconst 1, 1) := by decide +kernel
theorem dX10_pass_128 : decode cX10_pass 128 = .ok (.goto 4, 3) := by decide +kernel
theorem dX10_pass_131 : decode cX10_pass 131 = .ok (.iconst 0, 1) := by decide +kernel
theorem dX10_pass_132 : decode cX10_pass 132 = .ok (.iadd, 1) := by decide +kernel
theorem dX10_pass_133 : decode cX10_pass 133 = .ok (.iastore, 1) := by decide +kernel
theorem dX10_pass_134 : decode cX10_pass 134 = .ok (.iinc 1 1, 3) := by decide +kernel
theorem dX10_pass_137 : decode cX10_pass 137 = .ok (.goto (-135), 3) := by decide +kernel
theorem dX10_pass_140 : decode cX10_pass 140 = .ok (.aload_n 0, 1) := by decide +kernel
theorem dX10_pass_141 : decode cX10_pass 141 = .ok (.getfield 22, 3) := by decide +kernel
theorem dX10_pass_144 : decode cX10_pass 144 = .ok (.bipush 33, 2) := by decide +kernel
theorem dX10_pass_146 : decode cX10_pass 146 = .ok (.dup2, 1) := by decide +kernel
theorem dX10_pass_147 : decode cX10_pass 147 = .ok (.iaload, 1) := by decide +kernel
theorem dX10_pass_148 : decode cX10_pass 148 = .ok (.iconst 1, 1) := by decide +kernel
theorem dX10_pass_149 : decode cX10_pass 149 = .ok (.iadd, 1) := by decide +kernel
theorem dX10_pass_150 : decode cX10_pass 150 = .ok (.iastore, 1) := by decide +kernel
theorem dX10_pass_151 : decode cX10_pass 151 = .ok (.return_, 1) := by decide +kernel
theorem dX10_remember_0 : decode cX10_remember 0 = .ok (.aload_n 0, 1) := by decide +kernel
theorem dX10_remember_1 : decode cX10_remember 1 = .ok (.getfield 172, 3) := by decide +kernel
theorem dX10_remember_4 : decode cX10_remember 4 = .ok (.bipush 16, 2) := by decide +kernel
theorem dX10_remember_6 : decode cX10_remember 6 = .ok (.if_icmp .ne 44, 3) := by decide +kernel
theorem dX10_remember_9 : decode cX10_remember 9 = .ok (.bipush 36, 2) := by decide +kernel
theorem dX10_remember_11 : decode cX10_remember 11 = .ok (.istore_n 1, 1) := by decide +kernel
theorem dX10_remember_12 : decode cX10_remember 12 = .ok (.iload_n 1, 1) := by decide +kernel
theorem dX10_remember_13 : decode cX10_remember 13 = .ok (.sipush 576, 3) := by decide +kernel
theorem dX10_remember_16 : decode cX10_remember 16 = .ok (.if_icmp .ge 24, 3) := by decide +kernel
theorem dX10_remember_19 : decode cX10_remember 19 = .ok (.aload_n 0, 1) := by decide +kernel
theorem dX10_remember_20 : decode cX10_remember 20 = .ok (.getfield 44, 3) := by decide +kernel
theorem dX10_remember_23 : decode cX10_remember 23 = .ok (.iload_n 1, 1) := by decide +kernel
theorem dX10_remember_24 : decode cX10_remember 24 = .ok (.bipush 36, 2) := by decide +kernel
theorem dX10_remember_26 : decode cX10_remember 26 = .ok (.isub, 1) := by decide +kernel
theorem dX10_remember_27 : decode cX10_remember 27 = .ok (.aload_n 0, 1) := by decide +kernel
theorem dX10_remember_28 : decode cX10_remember 28 = .ok (.getfield 44, 3) := by decide +kernel
theorem dX10_remember_31 : decode cX10_remember 31 = .ok (.iload_n 1, 1) := by decide +kernel
theorem dX10_remember_32 : decode cX10_remember 32 = .ok (.iaload, 1) := by decide +kernel
theorem dX10_remember_33 : decode cX10_remember 33 = .ok (.iastore, 1) := by decide +kernel
theorem dX10_remember_34 : decode cX10_remember 34 = .ok (.iinc 1 1, 3) := by decide +kernel
theorem dX10_remember_37 : decode cX10_remember 37 = .ok (.goto (-25), 3) := by decide +kernel
theorem dX10_remember_40 : decode cX10_remember 40 = .ok (.aload_n 0, 1) := by decide +kernel
theorem dX10_remember_41 : decode cX10_remember 41 = .ok (.dup, 1) := by decide +kernel
theorem dX10_remember_42 : decode cX10_remember 42 = .ok (.getfield 172, 3) := by decide +kernel
theorem dX10_remember_45 : decode cX10_remember 45 = .ok (.iconst 1, 1) := by decide +kernel
theorem dX10_remember_46 : decode cX10_remember 46 = .ok (.isub, 1) := by decide +kernel
theorem dX10_remember_47 : decode cX10_remember 47 = .ok (.putfield 172, 3) := by decide +kernel
theorem dX10_remember_50 : decode cX10_remember 50 = .ok (.iconst 0, 1) := by decide +kernel
theorem dX10_remember_51 : decode cX10_remember 51 = .ok (.istore_n 1, 1) := by decide +kernel
theorem dX10_remember_52 : decode cX10_remember 52 = .ok (.iload_n 1, 1) := by decide +kernel
theorem dX10_remember_53 : decode cX10_remember 53 = .ok (.bipush 36, 2) := by decide +kernel
theorem dX10_remember_55 : decode cX10_remember 55 = .ok (.if_icmp .ge 29, 3) := by decide +kernel
theorem dX10_remember_58 : decode cX10_remember 58 = .ok (.aload_n 0, 1) := by decide +kernel
theorem dX10_remember_59 : decode cX10_remember 59 = .ok (.getfield 44, 3) := by decide +kernel
theorem dX10_remember_62 : decode cX10_remember 62 = .ok (.bipush 36, 2) := by decide +kernel
theorem dX10_remember_64 : decode cX10_remember 64 = .ok (.aload_n 0, 1) := by decide +kernel
theorem dX10_remember_65 : decode cX10_remember 65 = .ok (.getfield 172, 3) := by decide +kernel
theorem dX10_remember_68 : decode cX10_remember 68 = .ok (.imul, 1) := by decide +kernel
theorem dX10_remember_69 : decode cX10_remember 69 = .ok (.iload_n 1, 1) := by decide +kernel
theorem dX10_remember_70 : decode cX10_remember 70 = .ok (.iadd, 1) := by decide +kernel
theorem dX10_remember_71 : decode cX10_remember 71 = .ok (.aload_n 0, 1) := by decide +kernel
theorem dX10_remember_72 : decode cX10_remember 72 = .ok (.getfield 22, 3) := by decide +kernel
theorem dX10_remember_75 : decode cX10_remember 75 = .ok (.iload_n 1, 1) := by decide +kernel
theorem dX10_remember_76 : decode cX10_remember 76 = .ok (.iaload, 1) := by decide +kernel
theorem dX10_remember_77 : decode cX10_remember 77 = .ok (.iastore, 1) := by decide +kernel
theorem dX10_remember_78 : decode cX10_remember 78 = .ok (.iinc 1 1, 3) := by decide +kernel
theorem dX10_remember_81 : decode cX10_remember 81 = .ok (.goto (-29), 3) := by decide +kernel
theorem dX10_remember_84 : decode cX10_remember 84 = .ok (.aload_n 0, 1) := by decide +kernel
theorem dX10_remember_85 : decode cX10_remember 85 = .ok (.dup, 1) := by decide +kernel
theorem dX10_remember_86 : decode cX10_remember 86 = .ok (.getfield 172, 3) := by decide +kernel
theorem dX10_remember_89 : decode cX10_remember 89 = .ok (.iconst 1, 1) := by decide +kernel
theorem dX10_remember_90 : decode cX10_remember 90 = .ok (.iadd, 1) := by decide +kernel
theorem dX10_remember_91 : decode cX10_remember 91 = .ok (.putfield 172, 3) := by decide +kernel
theorem dX10_remember_94 : decode cX10_remember 94 = .ok (.return_, 1) := by decide +kernel
theorem dX10_layNow_0 : decode cX10_layNow 0 = .ok (.aload_n 0, 1) := by decide +kernel
theorem dX10_layNow_1 : decode cX10_layNow 1 = .ok (.getfield 22, 3) := by decide +kernel
theorem dX10_layNow_4 : decode cX10_layNow 4 = .ok (.bipush 8, 2) := by decide +kernel
theorem dX10_layNow_6 : decode cX10_layNow 6 = .ok (.iload_n 2, 1) := by decide +kernel
theorem dX10_layNow_7 : decode cX10_layNow 7 = .ok (.ifCond .eq 19, 3) := by decide +kernel
theorem dX10_layNow_10 : decode cX10_layNow 10 = .ok (.aload_n 0, 1) := by decide +kernel
theorem dX10_layNow_11 : decode cX10_layNow 11 = .ok (.getfield 22, 3) := by decide +kernel
theorem dX10_layNow_14 : decode cX10_layNow 14 = .ok (.bipush 8, 2) := by decide +kernel
theorem dX10_layNow_16 : decode cX10_layNow 16 = .ok (.iaload, 1) := by decide +kernel
theorem dX10_layNow_17 : decode cX10_layNow 17 = .ok (.iconst 1, 1) := by decide +kernel
theorem dX10_layNow_18 : decode cX10_layNow 18 = .ok (.iload_n 1, 1) := by decide +kernel
theorem dX10_layNow_19 : decode cX10_layNow 19 = .ok (.ishl, 1) := by decide +kernel
theorem dX10_layNow_20 : decode cX10_layNow 20 = .ok (.iconst (-1), 1) := by decide +kernel
theorem dX10_layNow_21 : decode cX10_layNow 21 = .ok (.ixor, 1) := by decide +kernel
theorem dX10_layNow_22 : decode cX10_layNow 22 = .ok (.iand, 1) := by decide +kernel
theorem dX10_layNow_23 : decode cX10_layNow 23 = .ok (.goto 14, 3) := by decide +kernel
theorem dX10_layNow_26 : decode cX10_layNow 26 = .ok (.aload_n 0, 1) := by decide +kernel
theorem dX10_layNow_27 : decode cX10_layNow 27 = .ok (.getfield 22, 3) := by decide +kernel
theorem dX10_layNow_30 : decode cX10_layNow 30 = .ok (.bipush 8, 2) := by decide +kernel
theorem dX10_layNow_32 : decode cX10_layNow 32 = .ok (.iaload, 1) := by decide +kernel
theorem dX10_layNow_33 : decode cX10_layNow 33 = .ok (.iconst 1, 1) := by decide +kernel
theorem dX10_layNow_34 : decode cX10_layNow 34 = .ok (.iload_n 1, 1) := by decide +kernel
theorem dX10_layNow_35 : decode cX10_layNow 35 = .ok (.ishl, 1) := by decide +kernel
theorem dX10_layNow_36 : decode cX10_layNow 36 = .ok (.ior, 1) := by decide +kernel
theorem dX10_layNow_37 : decode cX10_layNow 37 = .ok (.iastore, 1) := by decide +kernel
theorem dX10_layNow_38 : decode cX10_layNow 38 = .ok (.return_, 1) := by decide +kernel
theorem dX10_sendNow_0 : decode cX10_sendNow 0 = .ok (.aload_n 0, 1) := by decide +kernel
theorem dX10_sendNow_1 : decode cX10_sendNow 1 = .ok (.getfield 22, 3) := by decide +kernel
theorem dX10_sendNow_4 : decode cX10_sendNow 4 = .ok (.iload_n 1, 1) := by decide +kernel
theorem dX10_sendNow_5 : decode cX10_sendNow 5 = .ok (.iload_n 2, 1) := by decide +kernel
theorem dX10_sendNow_6 : decode cX10_sendNow 6 = .ok (.iastore, 1) := by decide +kernel
theorem dX10_sendNow_7 : decode cX10_sendNow 7 = .ok (.aload_n 0, 1) := by decide +kernel
theorem dX10_sendNow_8 : decode cX10_sendNow 8 = .ok (.iload_n 1, 1) := by decide +kernel
theorem dX10_sendNow_9 : decode cX10_sendNow 9 = .ok (.iconst 1, 1) := by decide +kernel
theorem dX10_sendNow_10 : decode cX10_sendNow 10 = .ok (.invokevirtual 232, 3) := by decide +kernel
theorem dX10_sendNow_13 : decode cX10_sendNow 13 = .ok (.return_, 1) := by decide +kernel
theorem dX10_post_0 : decode cX10_post 0 = .ok (.aload_n 0, 1) := by decide +kernel
theorem dX10_post_1 : decode cX10_post 1 = .ok (.iload_n 1, 1) := by decide +kernel
theorem dX10_post_2 : decode cX10_post 2 = .ok (.invokevirtual 215, 3) := by decide +kernel
theorem dX10_post_5 : decode cX10_post 5 = .ok (.ifCond .eq 11, 3) := by decide +kernel
theorem dX10_post_8 : decode cX10_post 8 = .ok (.aload_n 0, 1) := by decide +kernel
theorem dX10_post_9 : decode cX10_post 9 = .ok (.iload_n 2, 1) := by decide +kernel
theorem dX10_post_10 : decode cX10_post 10 = .ok (.invokevirtual 219, 3) := by decide +kernel
theorem dX10_post_13 : decode cX10_post 13 = .ok (.ifCond .ne 6, 3) := by decide +kernel
theorem dX10_post_16 : decode cX10_post 16 = .ok (.ldc 218, 2) := by decide +kernel
theorem dX10_post_18 : decode cX10_post 18 = .ok (.ireturn, 1) := by decide +kernel
theorem dX10_post_19 : decode cX10_post 19 = .ok (.aload_n 0, 1) := by decide +kernel
theorem dX10_post_20 : decode cX10_post 20 = .ok (.getfield 22, 3) := by decide +kernel
theorem dX10_post_23 : decode cX10_post 23 = .ok (.iload_n 1, 1) := by decide +kernel
theorem dX10_post_24 : decode cX10_post 24 = .ok (.iaload, 1) := by decide +kernel
theorem dX10_post_25 : decode cX10_post 25 = .ok (.iload_n 2, 1) := by decide +kernel
theorem dX10_post_26 : decode cX10_post 26 = .ok (.if_icmp .ne 6, 3) := by decide +kernel
theorem dX10_post_29 : decode cX10_post 29 = .ok (.ldc 236, 2) := by decide +kernel
theorem dX10_post_31 : decode cX10_post 31 = .ok (.ireturn, 1) := by decide +kernel
theorem dX10_post_32 : decode cX10_post 32 = .ok (.aload_n 0, 1) := by decide +kernel
theorem dX10_post_33 : decode cX10_post 33 = .ok (.invokevirtual 237, 3) := by decide +kernel
theorem dX10_post_36 : decode cX10_post 36 = .ok (.aload_n 0, 1) := by decide +kernel
theorem dX10_post_37 : decode cX10_post 37 = .ok (.getfield 22, 3) := by decide +kernel
theorem dX10_post_40 : decode cX10_post 40 = .ok (.iload_n 1, 1) := by decide +kernel
theorem dX10_post_41 : decode cX10_post 41 = .ok (.iaload, 1) := by decide +kernel
theorem dX10_post_42 : decode cX10_post 42 = .ok (.istore_n 3, 1) := by decide +kernel
theorem dX10_post_43 : decode cX10_post 43 = .ok (.aload_n 0, 1) := by decide +kernel
theorem dX10_post_44 : decode cX10_post 44 = .ok (.iload_n 1, 1) := by decide +kernel
theorem dX10_post_45 : decode cX10_post 45 = .ok (.iload_n 2, 1) := by decide +kernel
theorem dX10_post_46 : decode cX10_post 46 = .ok (.invokevirtual 240, 3) := by decide +kernel
theorem dX10_post_49 : decode cX10_post 49 = .ok (.iload_n 3, 1) := by decide +kernel
theorem dX10_post_50 : decode cX10_post 50 = .ok (.ireturn, 1) := by decide +kernel
theorem dX10_mixNow_0 : decode cX10_mixNow 0 = .ok (.aload_n 0, 1) := by decide +kernel
theorem dX10_mixNow_1 : decode cX10_mixNow 1 = .ok (.getfield 22, 3) := by decide +kernel
theorem dX10_mixNow_4 : decode cX10_mixNow 4 = .ok (.iload_n 1, 1) := by decide +kernel
theorem dX10_mixNow_5 : decode cX10_mixNow 5 = .ok (.iaload, 1) := by decide +kernel
theorem dX10_mixNow_6 : decode cX10_mixNow 6 = .ok (.istore_n 3, 1) := by decide +kernel
theorem dX10_mixNow_7 : decode cX10_mixNow 7 = .ok (.aload_n 0, 1) := by decide +kernel
theorem dX10_mixNow_8 : decode cX10_mixNow 8 = .ok (.iload_n 1, 1) := by decide +kernel
theorem dX10_mixNow_9 : decode cX10_mixNow 9 = .ok (.aload_n 0, 1) := by decide +kernel
theorem dX10_mixNow_10 : decode cX10_mixNow 10 = .ok (.getfield 22, 3) := by decide +kernel
theorem dX10_mixNow_13 : decode cX10_mixNow 13 = .ok (.iload_n 2, 1) := by decide +kernel
theorem dX10_mixNow_14 : decode cX10_mixNow 14 = .ok (.iaload, 1) := by decide +kernel
theorem dX10_mixNow_15 : decode cX10_mixNow 15 = .ok (.invokevirtual 240, 3) := by decide +kernel
theorem dX10_mixNow_18 : decode cX10_mixNow 18 = .ok (.aload_n 0, 1) := by decide +kernel
theorem dX10_mixNow_19 : decode cX10_mixNow 19 = .ok (.iload_n 2, 1) := by decide +kernel
theorem dX10_mixNow_20 : decode cX10_mixNow 20 = .ok (.iload_n 3, 1) := by decide +kernel
theorem dX10_mixNow_21 : decode cX10_mixNow 21 = .ok (.invokevirtual 240, 3) := by decide +kernel
theorem dX10_mixNow_24 : decode cX10_mixNow 24 = .ok (.return_, 1) := by decide +kernel
theorem dX10_mix_0 : decode cX10_mix 0 = .ok (.aload_n 0, 1) := by decide +kernel
theorem dX10_mix_1 : decode cX10_mix 1 = .ok (.iload_n 1, 1) := by decide +kernel
theorem dX10_mix_2 : decode cX10_mix 2 = .ok (.invokevirtual 215, 3) := by decide +kernel
theorem dX10_mix_5 : decode cX10_mix 5 = .ok (.ifCond .eq 16, 3) := by decide +kernel
theorem dX10_mix_8 : decode cX10_mix 8 = .ok (.aload_n 0, 1) := by decide +kernel
theorem dX10_mix_9 : decode cX10_mix 9 = .ok (.iload_n 2, 1) := by decide +kernel
theorem dX10_mix_10 : decode cX10_mix 10 = .ok (.invokevirtual 215, 3) := by decide +kernel
theorem dX10_mix_13 : decode cX10_mix 13 = .ok (.ifCond .eq 8, 3) := by decide +kernel
theorem dX10_mix_16 : decode cX10_mix 16 = .ok (.iload_n 1, 1) := by decide +kernel
theorem dX10_mix_17 : decode cX10_mix 17 = .ok (.iload_n 2, 1) := by decide +kernel
theorem dX10_mix_18 : decode cX10_mix 18 = .ok (.if_icmp .ne 6, 3) := by decide +kernel
theorem dX10_mix_21 : decode cX10_mix 21 = .ok (.ldc 218, 2) := by decide +kernel
theorem dX10_mix_23 : decode cX10_mix 23 = .ok (.ireturn, 1) := by decide +kernel
theorem dX10_mix_24 : decode cX10_mix 24 = .ok (.aload_n 0, 1) := by decide +kernel
theorem dX10_mix_25 : decode cX10_mix 25 = .ok (.invokevirtual 237, 3) := by decide +kernel
theorem dX10_mix_28 : decode cX10_mix 28 = .ok (.aload_n 0, 1) := by decide +kernel
theorem dX10_mix_29 : decode cX10_mix 29 = .ok (.iload_n 1, 1) := by decide +kernel
theorem dX10_mix_30 : decode cX10_mix 30 = .ok (.iload_n 2, 1) := by decide +kernel
theorem dX10_mix_31 : decode cX10_mix 31 = .ok (.invokevirtual 244, 3) := by decide +kernel
theorem dX10_mix_34 : decode cX10_mix 34 = .ok (.aload_n 0, 1) := by decide +kernel
theorem dX10_mix_35 : decode cX10_mix 35 = .ok (.getfield 22, 3) := by decide +kernel
theorem dX10_mix_38 : decode cX10_mix 38 = .ok (.iload_n 1, 1) := by decide +kernel
theorem dX10_mix_39 : decode cX10_mix 39 = .ok (.iaload, 1) := by decide +kernel
theorem dX10_mix_40 : decode cX10_mix 40 = .ok (.ireturn, 1) := by decide +kernel
theorem dX10_lay_0 : decode cX10_lay 0 = .ok (.aload_n 0, 1) := by decide +kernel
theorem dX10_lay_1 : decode cX10_lay 1 = .ok (.iload_n 1, 1) := by decide +kernel
theorem dX10_lay_2 : decode cX10_lay 2 = .ok (.invokevirtual 215, 3) := by decide +kernel
theorem dX10_lay_5 : decode cX10_lay 5 = .ok (.ifCond .ne 6, 3) := by decide +kernel
theorem dX10_lay_8 : decode cX10_lay 8 = .ok (.ldc 218, 2) := by decide +kernel
theorem dX10_lay_10 : decode cX10_lay 10 = .ok (.ireturn, 1) := by decide +kernel
theorem dX10_lay_11 : decode cX10_lay 11 = .ok (.aload_n 0, 1) := by decide +kernel
theorem dX10_lay_12 : decode cX10_lay 12 = .ok (.invokevirtual 237, 3) := by decide +kernel
theorem dX10_lay_15 : decode cX10_lay 15 = .ok (.aload_n 0, 1) := by decide +kernel
theorem dX10_lay_16 : decode cX10_lay 16 = .ok (.getfield 22, 3) := by decide +kernel
theorem dX10_lay_19 : decode cX10_lay 19 = .ok (.bipush 8, 2) := by decide +kernel
theorem dX10_lay_21 : decode cX10_lay 21 = .ok (.iaload, 1) := by decide +kernel
theorem dX10_lay_22 : decode cX10_lay 22 = .ok (.iload_n 1, 1) := by decide +kernel
theorem dX10_lay_23 : decode cX10_lay 23 = .ok (.invokestatic 175, 3) := by decide +kernel
theorem dX10_lay_26 : decode cX10_lay 26 = .ok (.ifCond .eq 7, 3) := by decide +kernel
theorem dX10_lay_29 : decode cX10_lay 29 = .ok (.iconst 0, 1) := by decide +kernel
theorem dX10_lay_30 : decode cX10_lay 30 = .ok (.goto 4, 3) := by decide +kernel
theorem dX10_lay_33 : decode cX10_lay 33 = .ok (.iconst 1, 1) := by decide +kernel
theorem dX10_lay_34 : decode cX10_lay 34 = .ok (.istore_n 3, 1) := by decide +kernel
theorem dX10_lay_35 : decode cX10_lay 35 = .ok (.aload_n 0, 1) := by decide +kernel
theorem dX10_lay_36 : decode cX10_lay 36 = .ok (.iload_n 1, 1) := by decide +kernel
theorem dX10_lay_37 : decode cX10_lay 37 = .ok (.iload_n 2, 1) := by decide +kernel
theorem dX10_lay_38 : decode cX10_lay 38 = .ok (.invokevirtual 232, 3) := by decide +kernel
theorem dX10_lay_41 : decode cX10_lay 41 = .ok (.iload_n 3, 1) := by decide +kernel
theorem dX10_lay_42 : decode cX10_lay 42 = .ok (.ireturn, 1) := by decide +kernel
theorem dX10_mask_0 : decode cX10_mask 0 = .ok (.aload_n 0, 1) := by decide +kernel
theorem dX10_mask_1 : decode cX10_mask 1 = .ok (.iload_n 1, 1) := by decide +kernel
theorem dX10_mask_2 : decode cX10_mask 2 = .ok (.invokevirtual 215, 3) := by decide +kernel
theorem dX10_mask_5 : decode cX10_mask 5 = .ok (.ifCond .ne 6, 3) := by decide +kernel
theorem dX10_mask_8 : decode cX10_mask 8 = .ok (.ldc 218, 2) := by decide +kernel
theorem dX10_mask_10 : decode cX10_mask 10 = .ok (.ireturn, 1) := by decide +kernel
theorem dX10_mask_11 : decode cX10_mask 11 = .ok (.iload_n 2, 1) := by decide +kernel
theorem dX10_mask_12 : decode cX10_mask 12 = .ok (.i2l, 1) := by decide +kernel
theorem dX10_mask_13 : decode cX10_mask 13 = .ok (.lconst 0, 1) := by decide +kernel
theorem dX10_mask_14 : decode cX10_mask 14 = .ok (.ldc2_w 247, 3) := by decide +kernel
theorem dX10_mask_17 : decode cX10_mask 17 = .ok (.invokestatic 75, 3) := by decide +kernel
theorem dX10_mask_20 : decode cX10_mask 20 = .ok (.ifCond .ne 6, 3) := by decide +kernel
theorem dX10_mask_23 : decode cX10_mask 23 = .ok (.ldc 84, 2) := by decide +kernel
theorem dX10_mask_25 : decode cX10_mask 25 = .ok (.ireturn, 1) := by decide +kernel
theorem dX10_mask_26 : decode cX10_mask 26 = .ok (.aload_n 0, 1) := by decide +kernel
theorem dX10_mask_27 : decode cX10_mask 27 = .ok (.invokevirtual 237, 3) := by decide +kernel
theorem dX10_mask_30 : decode cX10_mask 30 = .ok (.aload_n 0, 1) := by decide +kernel
theorem dX10_mask_31 : decode cX10_mask 31 = .ok (.getfield 22, 3) := by decide +kernel
theorem dX10_mask_34 : decode cX10_mask 34 = .ok (.bipush 17, 2) := by decide +kernel
theorem dX10_mask_36 : decode cX10_mask 36 = .ok (.iload_n 1, 1) := by decide +kernel
theorem dX10_mask_37 : decode cX10_mask 37 = .ok (.iadd, 1) := by decide +kernel
theorem dX10_mask_38 : decode cX10_mask 38 = .ok (.iaload, 1) := by decide +kernel
theorem dX10_mask_39 : decode cX10_mask 39 = .ok (.istore_n 3, 1) := by decide +kernel
theorem dX10_mask_40 : decode cX10_mask 40 = .ok (.aload_n 0, 1) := by decide +kernel
theorem dX10_mask_41 : decode cX10_mask 41 = .ok (.getfield 22, 3) := by decide +kernel
theorem dX10_mask_44 : decode cX10_mask 44 = .ok (.bipush 17, 2) := by decide +kernel
theorem dX10_mask_46 : decode cX10_mask 46 = .ok (.iload_n 1, 1) := by decide +kernel
theorem dX10_mask_47 : decode cX10_mask 47 = .ok (.iadd, 1) := by decide +kernel
theorem dX10_mask_48 : decode cX10_mask 48 = .ok (.iload_n 2, 1) := by decide +kernel
theorem dX10_mask_49 : decode cX10_mask 49 = .ok (.iastore, 1) := by decide +kernel
theorem dX10_mask_50 : decode cX10_mask 50 = .ok (.iload_n 3, 1) := by decide +kernel
theorem dX10_mask_51 : decode cX10_mask 51 = .ok (.ireturn, 1) := by decide +kernel
theorem dX10_audienceNow_0 : decode cX10_audienceNow 0 = .ok (.aload_n 0, 1) := by decide +kernel
theorem dX10_audienceNow_1 : decode cX10_audienceNow 1 = .ok (.aload_n 0, 1) := by decide +kernel
theorem dX10_audienceNow_2 : decode cX10_audienceNow 2 = .ok (.invokevirtual 203, 3) := by decide +kernel
theorem dX10_audienceNow_5 : decode cX10_audienceNow 5 = .ok (.invokevirtual 185, 3) := by decide +kernel
theorem dX10_audienceNow_8 : decode cX10_audienceNow 8 = .ok (.ifCond .eq 7, 3) := by decide +kernel
theorem dX10_audienceNow_11 : decode cX10_audienceNow 11 = .ok (.iconst 1, 1) := by decide +kernel
theorem dX10_audienceNow_12 : decode cX10_audienceNow 12 = .ok (.goto 4, 3) := by decide +kernel
theorem dX10_audienceNow_15 : decode cX10_audienceNow 15 = .ok (.iconst 0, 1) := by decide +kernel
theorem dX10_audienceNow_16 : decode cX10_audienceNow 16 = .ok (.istore_n 1, 1) := by decide +kernel
theorem dX10_audienceNow_17 : decode cX10_audienceNow 17 = .ok (.aload_n 0, 1) := by decide +kernel
theorem dX10_audienceNow_18 : decode cX10_audienceNow 18 = .ok (.getfield 22, 3) := by decide +kernel
theorem dX10_audienceNow_21 : decode cX10_audienceNow 21 = .ok (.bipush 34, 2) := by decide +kernel
theorem dX10_audienceNow_23 : decode cX10_audienceNow 23 = .ok (.dup2, 1) := by decide +kernel
theorem dX10_audienceNow_24 : decode cX10_audienceNow 24 = .ok (.iaload, 1) := by decide +kernel
theorem dX10_audienceNow_25 : decode cX10_audienceNow 25 = .ok (.iconst 1, 1) := by decide +kernel
theorem dX10_audienceNow_26 : decode cX10_audienceNow 26 = .ok (.iadd, 1) := by decide +kernel
theorem dX10_audienceNow_27 : decode cX10_audienceNow 27 = .ok (.iastore, 1) := by decide +kernel
theorem dX10_audienceNow_28 : decode cX10_audienceNow 28 = .ok (.aload_n 0, 1) := by decide +kernel
theorem dX10_audienceNow_29 : decode cX10_audienceNow 29 = .ok (.getfield 22, 3) := by decide +kernel
theorem dX10_audienceNow_32 : decode cX10_audienceNow 32 = .ok (.bipush 35, 2) := by decide +kernel
theorem dX10_audienceNow_34 : decode cX10_audienceNow 34 = .ok (.dup2, 1) := by decide +kernel
theorem dX10_audienceNow_35 : decode cX10_audienceNow 35 = .ok (.iaload, 1) := by decide +kernel
theorem dX10_audienceNow_36 : decode cX10_audienceNow 36 = .ok (.iload_n 1, 1) := by decide +kernel
theorem dX10_audienceNow_37 : decode cX10_audienceNow 37 = .ok (.iadd, 1) := by decide +kernel
theorem dX10_audienceNow_38 : decode cX10_audienceNow 38 = .ok (.iastore, 1) := by decide +kernel
theorem dX10_audienceNow_39 : decode cX10_audienceNow 39 = .ok (.iload_n 1, 1) := by decide +kernel
theorem dX10_audienceNow_40 : decode cX10_audienceNow 40 = .ok (.ireturn, 1) := by decide +kernel
theorem dX10_audience_0 : decode cX10_audience 0 = .ok (.aload_n 0, 1) := by decide +kernel
theorem dX10_audience_1 : decode cX10_audience 1 = .ok (.getfield 72, 3) := by decide +kernel
theorem dX10_audience_4 : decode cX10_audience 4 = .ok (.ifCond .ne 6, 3) := by decide +kernel
theorem dX10_audience_7 : decode cX10_audience 7 = .ok (.ldc 236, 2) := by decide +kernel
theorem dX10_audience_9 : decode cX10_audience 9 = .ok (.ireturn, 1) := by decide +kernel
theorem dX10_audience_10 : decode cX10_audience 10 = .ok (.aload_n 0, 1) := by decide +kernel
theorem dX10_audience_11 : decode cX10_audience 11 = .ok (.invokevirtual 237, 3) := by decide +kernel
theorem dX10_audience_14 : decode cX10_audience 14 = .ok (.aload_n 0, 1) := by decide +kernel
theorem dX10_audience_15 : decode cX10_audience 15 = .ok (.invokevirtual 249, 3) := by decide +kernel
theorem dX10_audience_18 : decode cX10_audience 18 = .ok (.ireturn, 1) := by decide +kernel
theorem dX10_yearsRefused_0 : decode cX10_yearsRefused 0 = .ok (.iload_n 1, 1) := by decide +kernel
theorem dX10_yearsRefused_1 : decode cX10_yearsRefused 1 = .ok (.i2l, 1) := by decide +kernel
theorem dX10_yearsRefused_2 : decode cX10_yearsRefused 2 = .ok (.lconst 1, 1) := by decide +kernel
theorem dX10_yearsRefused_3 : decode cX10_yearsRefused 3 = .ok (.ldc2_w 252, 3) := by decide +kernel
theorem dX10_yearsRefused_6 : decode cX10_yearsRefused 6 = .ok (.invokestatic 75, 3) := by decide +kernel
theorem dX10_yearsRefused_9 : decode cX10_yearsRefused 9 = .ok (.ifCond .ne 6, 3) := by decide +kernel
theorem dX10_yearsRefused_12 : decode cX10_yearsRefused 12 = .ok (.ldc 84, 2) := by decide +kernel
theorem dX10_yearsRefused_14 : decode cX10_yearsRefused 14 = .ok (.ireturn, 1) := by decide +kernel
theorem dX10_yearsRefused_15 : decode cX10_yearsRefused 15 = .ok (.aload_n 0, 1) := by decide +kernel
theorem dX10_yearsRefused_16 : decode cX10_yearsRefused 16 = .ok (.getfield 72, 3) := by decide +kernel
theorem dX10_yearsRefused_19 : decode cX10_yearsRefused 19 = .ok (.ifCond .ne 8, 3) := by decide +kernel
theorem dX10_yearsRefused_22 : decode cX10_yearsRefused 22 = .ok (.ldc 236, 2) := by decide +kernel
theorem dX10_yearsRefused_24 : decode cX10_yearsRefused 24 = .ok (.goto 22, 3) := by decide +kernel
theorem dX10_yearsRefused_27 : decode cX10_yearsRefused 27 = .ok (.aload_n 0, 1) := by decide +kernel
theorem dX10_yearsRefused_28 : decode cX10_yearsRefused 28 = .ok (.getfield 22, 3) := by decide +kernel
theorem dX10_yearsRefused_31 : decode cX10_yearsRefused 31 = .ok (.bipush 33, 2) := by decide +kernel
theorem dX10_yearsRefused_33 : decode cX10_yearsRefused 33 = .ok (.iaload, 1) := by decide +kernel
theorem dX10_yearsRefused_34 : decode cX10_yearsRefused 34 = .ok (.sipush 9000, 3) := by decide +kernel
theorem dX10_yearsRefused_37 : decode cX10_yearsRefused 37 = .ok (.if_icmp .le 8, 3) := by decide +kernel
theorem dX10_yearsRefused_40 : decode cX10_yearsRefused 40 = .ok (.ldc 88, 2) := by decide +kernel
theorem dX10_yearsRefused_42 : decode cX10_yearsRefused 42 = .ok (.goto 4, 3) := by decide +kernel
theorem dX10_yearsRefused_45 : decode cX10_yearsRefused 45 = .ok (.iconst 0, 1) := by decide +kernel
theorem dX10_yearsRefused_46 : decode cX10_yearsRefused 46 = .ok (.ireturn, 1) := by decide +kernel
theorem dX10_year_0 : decode cX10_year 0 = .ok (.aload_n 0, 1) := by decide +kernel
theorem dX10_year_1 : decode cX10_year 1 = .ok (.iload_n 1, 1) := by decide +kernel
theorem dX10_year_2 : decode cX10_year 2 = .ok (.invokevirtual 254, 3) := by decide +kernel
theorem dX10_year_5 : decode cX10_year 5 = .ok (.istore_n 2, 1) := by decide +kernel
theorem dX10_year_6 : decode cX10_year 6 = .ok (.iload_n 2, 1) := by decide +kernel
theorem dX10_year_7 : decode cX10_year 7 = .ok (.ifCond .eq 5, 3) := by decide +kernel
theorem dX10_year_10 : decode cX10_year 10 = .ok (.iload_n 2, 1) := by decide +kernel
theorem dX10_year_11 : decode cX10_year 11 = .ok (.ireturn, 1) := by decide +kernel
theorem dX10_year_12 : decode cX10_year 12 = .ok (.aload_n 0, 1) := by decide +kernel
theorem dX10_year_13 : decode cX10_year 13 = .ok (.invokevirtual 237, 3) := by decide +kernel
theorem dX10_year_16 : decode cX10_year 16 = .ok (.iconst 0, 1) := by decide +kernel
theorem dX10_year_17 : decode cX10_year 17 = .ok (.istore_n 3, 1) := by decide +kernel
theorem dX10_year_18 : decode cX10_year 18 = .ok (.iload_n 3, 1) := by decide +kernel
theorem dX10_year_19 : decode cX10_year 19 = .ok (.iload_n 1, 1) := by decide +kernel
theorem dX10_year_20 : decode cX10_year 20 = .ok (.if_icmp .ge 13, 3) := by decide +kernel
theorem dX10_year_23 : decode cX10_year 23 = .ok (.aload_n 0, 1) := by decide +kernel
theorem dX10_year_24 : decode cX10_year 24 = .ok (.invokevirtual 257, 3) := by decide +kernel
theorem dX10_year_27 : decode cX10_year 27 = .ok (.iinc 3 1, 3) := by decide +kernel
theorem dX10_year_30 : decode cX10_year 30 = .ok (.goto (-12), 3) := by decide +kernel
theorem dX10_year_33 : decode cX10_year 33 = .ok (.aload_n 0, 1) := by decide +kernel
theorem dX10_year_34 : decode cX10_year 34 = .ok (.getfield 22, 3) := by decide +kernel
theorem dX10_year_37 : decode cX10_year 37 = .ok (.bipush 33, 2) := by decide +kernel
theorem dX10_year_39 : decode cX10_year 39 = .ok (.iaload, 1) := by decide +kernel
theorem dX10_year_40 : decode cX10_year 40 = .ok (.ireturn, 1) := by decide +kernel
theorem dX10_draw_0 : decode cX10_draw 0 = .ok (.aload_n 0, 1) := by decide +kernel
theorem dX10_draw_1 : decode cX10_draw 1 = .ok (.aload_n 0, 1) := by decide +kernel
theorem dX10_draw_2 : decode cX10_draw 2 = .ok (.getfield 260, 3) := by decide +kernel
theorem dX10_draw_5 : decode cX10_draw 5 = .ok (.i2l, 1) := by decide +kernel
theorem dX10_draw_6 : decode cX10_draw 6 = .ok (.ldc2_w 263, 3) := by decide +kernel
theorem dX10_draw_9 : decode cX10_draw 9 = .ok (.lmul, 1) := by decide +kernel
theorem dX10_draw_10 : decode cX10_draw 10 = .ok (.ldc2_w 265, 3) := by decide +kernel
theorem dX10_draw_13 : decode cX10_draw 13 = .ok (.ladd, 1) := by decide +kernel
theorem dX10_draw_14 : decode cX10_draw 14 = .ok (.ldc2_w 267, 3) := by decide +kernel
theorem dX10_draw_17 : decode cX10_draw 17 = .ok (.lrem, 1) := by decide +kernel
theorem dX10_draw_18 : decode cX10_draw 18 = .ok (.l2i, 1) := by decide +kernel
theorem dX10_draw_19 : decode cX10_draw 19 = .ok (.putfield 260, 3) := by decide +kernel
theorem dX10_draw_22 : decode cX10_draw 22 = .ok (.aload_n 0, 1) := by decide +kernel
theorem dX10_draw_23 : decode cX10_draw 23 = .ok (.getfield 260, 3) := by decide +kernel
theorem dX10_draw_26 : decode cX10_draw 26 = .ok (.ldc_w 269, 3) := by decide +kernel
theorem dX10_draw_29 : decode cX10_draw 29 = .ok (.idiv, 1) := by decide +kernel
theorem dX10_draw_30 : decode cX10_draw 30 = .ok (.iload_n 1, 1) := by decide +kernel
theorem dX10_draw_31 : decode cX10_draw 31 = .ok (.irem, 1) := by decide +kernel
theorem dX10_draw_32 : decode cX10_draw 32 = .ok (.ireturn, 1) := by decide +kernel
theorem dX10_chance_0 : decode cX10_chance 0 = .ok (.aload_n 0, 1) := by decide +kernel
theorem dX10_chance_1 : decode cX10_chance 1 = .ok (.iconst 5, 1) := by decide +kernel
theorem dX10_chance_2 : decode cX10_chance 2 = .ok (.invokevirtual 270, 3) := by decide +kernel
theorem dX10_chance_5 : decode cX10_chance 5 = .ok (.istore_n 1, 1) := by decide +kernel
theorem dX10_chance_6 : decode cX10_chance 6 = .ok (.aload_n 0, 1) := by decide +kernel
theorem dX10_chance_7 : decode cX10_chance 7 = .ok (.aload_n 0, 1) := by decide +kernel
theorem dX10_chance_8 : decode cX10_chance 8 = .ok (.getfield 79, 3) := by decide +kernel
theorem dX10_chance_11 : decode cX10_chance 11 = .ok (.invokevirtual 270, 3) := by decide +kernel
theorem dX10_chance_14 : decode cX10_chance 14 = .ok (.istore_n 2, 1) := by decide +kernel
theorem dX10_chance_15 : decode cX10_chance 15 = .ok (.iload_n 1, 1) := by decide +kernel
theorem dX10_chance_16 : decode cX10_chance 16 = .ok (.ifCond .ne 31, 3) := by decide +kernel
theorem dX10_chance_19 : decode cX10_chance 19 = .ok (.aload_n 0, 1) := by decide +kernel
theorem dX10_chance_20 : decode cX10_chance 20 = .ok (.aload_n 0, 1) := by decide +kernel
theorem dX10_chance_21 : decode cX10_chance 21 = .ok (.getfield 72, 3) := by decide +kernel
theorem dX10_chance_24 : decode cX10_chance 24 = .ok (.invokevirtual 270, 3) := by decide +kernel
theorem dX10_chance_27 : decode cX10_chance 27 = .ok (.istore_n 3, 1) := by decide +kernel
theorem dX10_chance_28 : decode cX10_chance 28 = .ok (.aload_n 0, 1) := by decide +kernel
theorem dX10_chance_29 : decode cX10_chance 29 = .ok (.getfield 22, 3) := by decide +kernel
theorem dX10_chance_32 : decode cX10_chance 32 = .ok (.iload_n 2, 1) := by decide +kernel
theorem dX10_chance_33 : decode cX10_chance 33 = .ok (.iaload, 1) := by decide +kernel
theorem dX10_chance_34 : decode cX10_chance 34 = .ok (.iload_n 3, 1) := by decide +kernel
theorem dX10_chance_35 : decode cX10_chance 35 = .ok (.if_icmp .eq 9, 3) := by decide +kernel
theorem dX10_chance_38 : decode cX10_chance 38 = .ok (.aload_n 0, 1) := by decide +kernel
theorem dX10_chance_39 : decode cX10_chance 39 = .ok (.iload_n 2, 1) := by decide +kernel
theorem dX10_chance_40 : decode cX10_chance 40 = .ok (.iload_n 3, 1) := by decide +kernel
theorem dX10_chance_41 : decode cX10_chance 41 = .ok (.invokevirtual 240, 3) := by decide +kernel
theorem dX10_chance_44 : decode cX10_chance 44 = .ok (.goto 59, 3) := by decide +kernel
theorem dX10_chance_47 : decode cX10_chance 47 = .ok (.iload_n 1, 1) := by decide +kernel
theorem dX10_chance_48 : decode cX10_chance 48 = .ok (.iconst 1, 1) := by decide +kernel
theorem dX10_chance_49 : decode cX10_chance 49 = .ok (.if_icmp .ne 26, 3) := by decide +kernel
theorem dX10_chance_52 : decode cX10_chance 52 = .ok (.aload_n 0, 1) := by decide +kernel
theorem dX10_chance_53 : decode cX10_chance 53 = .ok (.aload_n 0, 1) := by decide +kernel
theorem dX10_chance_54 : decode cX10_chance 54 = .ok (.getfield 79, 3) := by decide +kernel
theorem dX10_chance_57 : decode cX10_chance 57 = .ok (.invokevirtual 270, 3) := by decide +kernel
theorem dX10_chance_60 : decode cX10_chance 60 = .ok (.istore_n 3, 1) := by decide +kernel
theorem dX10_chance_61 : decode cX10_chance 61 = .ok (.iload_n 2, 1) := by decide +kernel
theorem dX10_chance_62 : decode cX10_chance 62 = .ok (.iload_n 3, 1) := by decide +kernel
theorem dX10_chance_63 : decode cX10_chance 63 = .ok (.if_icmp .eq 9, 3) := by decide +kernel
theorem dX10_chance_66 : decode cX10_chance 66 = .ok (.aload_n 0, 1) := by decide +kernel
theorem dX10_chance_67 : decode cX10_chance 67 = .ok (.iload_n 2, 1) := by decide +kernel
theorem dX10_chance_68 : decode cX10_chance 68 = .ok (.iload_n 3, 1) := by decide +kernel
theorem dX10_chance_69 : decode cX10_chance 69 = .ok (.invokevirtual 244, 3) := by decide +kernel
theorem dX10_chance_72 : decode cX10_chance 72 = .ok (.goto 31, 3) := by decide +kernel
theorem dX10_chance_75 : decode cX10_chance 75 = .ok (.iload_n 1, 1) := by decide +kernel
theorem dX10_chance_76 : decode cX10_chance 76 = .ok (.iconst 4, 1) := by decide +kernel
theorem dX10_chance_77 : decode cX10_chance 77 = .ok (.if_icmp .ne 11, 3) := by decide +kernel
theorem dX10_chance_80 : decode cX10_chance 80 = .ok (.aload_n 0, 1) := by decide +kernel
theorem dX10_chance_81 : decode cX10_chance 81 = .ok (.invokevirtual 249, 3) := by decide +kernel
theorem dX10_chance_84 : decode cX10_chance 84 = .ok (.istore_n 3, 1) := by decide +kernel
theorem dX10_chance_85 : decode cX10_chance 85 = .ok (.goto 18, 3) := by decide +kernel
theorem dX10_chance_88 : decode cX10_chance 88 = .ok (.aload_n 0, 1) := by decide +kernel
theorem dX10_chance_89 : decode cX10_chance 89 = .ok (.iload_n 2, 1) := by decide +kernel
theorem dX10_chance_90 : decode cX10_chance 90 = .ok (.iload_n 1, 1) := by decide +kernel
theorem dX10_chance_91 : decode cX10_chance 91 = .ok (.iconst 3, 1) := by decide +kernel
theorem dX10_chance_92 : decode cX10_chance 92 = .ok (.if_icmp .ne 7, 3) := by decide +kernel
theorem dX10_chance_95 : decode cX10_chance 95 = .ok (.iconst 1, 1) := by decide +kernel
theorem dX10_chance_96 : decode cX10_chance 96 = .ok (.goto 4, 3) := by decide +kernel
theorem dX10_chance_99 : decode cX10_chance 99 = .ok (.iconst 0, 1) := by decide +kernel
theorem dX10_chance_100 : decode cX10_chance 100 = .ok (.invokevirtual 232, 3) := by decide +kernel
theorem dX10_chance_103 : decode cX10_chance 103 = .ok (.return_, 1) := by decide +kernel
theorem dX10_drift_0 : decode cX10_drift 0 = .ok (.aload_n 0, 1) := by decide +kernel
theorem dX10_drift_1 : decode cX10_drift 1 = .ok (.iload_n 1, 1) := by decide +kernel
theorem dX10_drift_2 : decode cX10_drift 2 = .ok (.invokevirtual 254, 3) := by decide +kernel
theorem dX10_drift_5 : decode cX10_drift 5 = .ok (.istore_n 2, 1) := by decide +kernel
theorem dX10_drift_6 : decode cX10_drift 6 = .ok (.iload_n 2, 1) := by decide +kernel
theorem dX10_drift_7 : decode cX10_drift 7 = .ok (.ifCond .eq 5, 3) := by decide +kernel
theorem dX10_drift_10 : decode cX10_drift 10 = .ok (.iload_n 2, 1) := by decide +kernel
theorem dX10_drift_11 : decode cX10_drift 11 = .ok (.ireturn, 1) := by decide +kernel
theorem dX10_drift_12 : decode cX10_drift 12 = .ok (.aload_n 0, 1) := by decide +kernel
theorem dX10_drift_13 : decode cX10_drift 13 = .ok (.invokevirtual 237, 3) := by decide +kernel
theorem dX10_drift_16 : decode cX10_drift 16 = .ok (.iconst 0, 1) := by decide +kernel
theorem dX10_drift_17 : decode cX10_drift 17 = .ok (.istore_n 3, 1) := by decide +kernel
theorem dX10_drift_18 : decode cX10_drift 18 = .ok (.iload_n 3, 1) := by decide +kernel
theorem dX10_drift_19 : decode cX10_drift 19 = .ok (.iload_n 1, 1) := by decide +kernel
theorem dX10_drift_20 : decode cX10_drift 20 = .ok (.if_icmp .ge 24, 3) := by decide +kernel
theorem dX10_drift_23 : decode cX10_drift 23 = .ok (.aload_n 0, 1) := by decide +kernel
theorem dX10_drift_24 : decode cX10_drift 24 = .ok (.getfield 79, 3) := by decide +kernel
theorem dX10_drift_27 : decode cX10_drift 27 = .ok (.ifCond .le 7, 3) := by decide +kernel
theorem dX10_drift_30 : decode cX10_drift 30 = .ok (.aload_n 0, 1) := by decide +kernel
theorem dX10_drift_31 : decode cX10_drift 31 = .ok (.invokevirtual 273, 3) := by decide +kernel
theorem dX10_drift_34 : decode cX10_drift 34 = .ok (.aload_n 0, 1) := by decide +kernel
theorem dX10_drift_35 : decode cX10_drift 35 = .ok (.invokevirtual 257, 3) := by decide +kernel
theorem dX10_drift_38 : decode cX10_drift 38 = .ok (.iinc 3 1, 3) := by decide +kernel
theorem dX10_drift_41 : decode cX10_drift 41 = .ok (.goto (-23), 3) := by decide +kernel
theorem dX10_drift_44 : decode cX10_drift 44 = .ok (.aload_n 0, 1) := by decide +kernel
theorem dX10_drift_45 : decode cX10_drift 45 = .ok (.getfield 22, 3) := by decide +kernel
theorem dX10_drift_48 : decode cX10_drift 48 = .ok (.bipush 33, 2) := by decide +kernel
theorem dX10_drift_50 : decode cX10_drift 50 = .ok (.iaload, 1) := by decide +kernel
theorem dX10_drift_51 : decode cX10_drift 51 = .ok (.ireturn, 1) := by decide +kernel
theorem dX10_undo_0 : decode cX10_undo 0 = .ok (.aload_n 0, 1) := by decide +kernel
theorem dX10_undo_1 : decode cX10_undo 1 = .ok (.getfield 172, 3) := by decide +kernel
theorem dX10_undo_4 : decode cX10_undo 4 = .ok (.ifCond .ne 6, 3) := by decide +kernel
theorem dX10_undo_7 : decode cX10_undo 7 = .ok (.ldc 236, 2) := by decide +kernel
theorem dX10_undo_9 : decode cX10_undo 9 = .ok (.ireturn, 1) := by decide +kernel
theorem dX10_undo_10 : decode cX10_undo 10 = .ok (.aload_n 0, 1) := by decide +kernel
theorem dX10_undo_11 : decode cX10_undo 11 = .ok (.dup, 1) := by decide +kernel
theorem dX10_undo_12 : decode cX10_undo 12 = .ok (.getfield 172, 3) := by decide +kernel
theorem dX10_undo_15 : decode cX10_undo 15 = .ok (.iconst 1, 1) := by decide +kernel
theorem dX10_undo_16 : decode cX10_undo 16 = .ok (.isub, 1) := by decide +kernel
theorem dX10_undo_17 : decode cX10_undo 17 = .ok (.putfield 172, 3) := by decide +kernel
theorem dX10_undo_20 : decode cX10_undo 20 = .ok (.iconst 0, 1) := by decide +kernel
theorem dX10_undo_21 : decode cX10_undo 21 = .ok (.istore_n 1, 1) := by decide +kernel
theorem dX10_undo_22 : decode cX10_undo 22 = .ok (.iload_n 1, 1) := by decide +kernel
theorem dX10_undo_23 : decode cX10_undo 23 = .ok (.bipush 36, 2) := by decide +kernel
theorem dX10_undo_25 : decode cX10_undo 25 = .ok (.if_icmp .ge 29, 3) := by decide +kernel
theorem dX10_undo_28 : decode cX10_undo 28 = .ok (.aload_n 0, 1) := by decide +kernel
theorem dX10_undo_29 : decode cX10_undo 29 = .ok (.getfield 22, 3) := by decide +kernel
theorem dX10_undo_32 : decode cX10_undo 32 = .ok (.iload_n 1, 1) := by decide +kernel
theorem dX10_undo_33 : decode cX10_undo 33 = .ok (.aload_n 0, 1) := by decide +kernel
theorem dX10_undo_34 : decode cX10_undo 34 = .ok (.getfield 44, 3) := by decide +kernel
theorem dX10_undo_37 : decode cX10_undo 37 = .ok (.bipush 36, 2) := by decide +kernel
theorem dX10_undo_39 : decode cX10_undo 39 = .ok (.aload_n 0, 1) := by decide +kernel
theorem dX10_undo_40 : decode cX10_undo 40 = .ok (.getfield 172, 3) := by decide +kernel
theorem dX10_undo_43 : decode cX10_undo 43 = .ok (.imul, 1) := by decide +kernel
theorem dX10_undo_44 : decode cX10_undo 44 = .ok (.iload_n 1, 1) := by decide +kernel
theorem dX10_undo_45 : decode cX10_undo 45 = .ok (.iadd, 1) := by decide +kernel
theorem dX10_undo_46 : decode cX10_undo 46 = .ok (.iaload, 1) := by decide +kernel
theorem dX10_undo_47 : decode cX10_undo 47 = .ok (.iastore, 1) := by decide +kernel
theorem dX10_undo_48 : decode cX10_undo 48 = .ok (.iinc 1 1, 3) := by decide +kernel
theorem dX10_undo_51 : decode cX10_undo 51 = .ok (.goto (-29), 3) := by decide +kernel
theorem dX10_undo_54 : decode cX10_undo 54 = .ok (.aload_n 0, 1) := by decide +kernel
theorem dX10_undo_55 : decode cX10_undo 55 = .ok (.getfield 172, 3) := by decide +kernel
theorem dX10_undo_58 : decode cX10_undo 58 = .ok (.ireturn, 1) := by decide +kernel
theorem dX10_warm_0 : decode cX10_warm 0 = .ok (.aload_n 0, 1) := by decide +kernel
theorem dX10_warm_1 : decode cX10_warm 1 = .ok (.iload_n 1, 1) := by decide +kernel
theorem dX10_warm_2 : decode cX10_warm 2 = .ok (.invokevirtual 215, 3) := by decide +kernel
theorem dX10_warm_5 : decode cX10_warm 5 = .ok (.ifCond .ne 6, 3) := by decide +kernel
theorem dX10_warm_8 : decode cX10_warm 8 = .ok (.ldc 218, 2) := by decide +kernel
theorem dX10_warm_10 : decode cX10_warm 10 = .ok (.ireturn, 1) := by decide +kernel
theorem dX10_warm_11 : decode cX10_warm 11 = .ok (.iload_n 2, 1) := by decide +kernel
theorem dX10_warm_12 : decode cX10_warm 12 = .ok (.i2l, 1) := by decide +kernel
theorem dX10_warm_13 : decode cX10_warm 13 = .ok (.lconst 0, 1) := by decide +kernel
theorem dX10_warm_14 : decode cX10_warm 14 = .ok (.ldc2_w 276, 3) := by decide +kernel
theorem dX10_warm_17 : decode cX10_warm 17 = .ok (.invokestatic 75, 3) := by decide +kernel
theorem dX10_warm_20 : decode cX10_warm 20 = .ok (.ifCond .ne 6, 3) := by decide +kernel
theorem dX10_warm_23 : decode cX10_warm 23 = .ok (.ldc 84, 2) := by decide +kernel
theorem dX10_warm_25 : decode cX10_warm 25 = .ok (.ireturn, 1) := by decide +kernel
theorem dX10_warm_26 : decode cX10_warm 26 = .ok (.aload_n 0, 1) := by decide +kernel
theorem dX10_warm_27 : decode cX10_warm 27 = .ok (.getfield 22, 3) := by decide +kernel
theorem dX10_warm_30 : decode cX10_warm 30 = .ok (.aload_n 0, 1) := by decide +kernel
theorem dX10_warm_31 : decode cX10_warm 31 = .ok (.getfield 47, 3) := by decide +kernel
theorem dX10_warm_34 : decode cX10_warm 34 = .ok (.bipush 36, 2) := by decide +kernel
theorem dX10_warm_36 : decode cX10_warm 36 = .ok (.invokestatic 152, 3) := by decide +kernel
theorem dX10_warm_39 : decode cX10_warm 39 = .ok (.iconst 0, 1) := by decide +kernel
theorem dX10_warm_40 : decode cX10_warm 40 = .ok (.istore_n 3, 1) := by decide +kernel
theorem dX10_warm_41 : decode cX10_warm 41 = .ok (.iload_n 3, 1) := by decide +kernel
theorem dX10_warm_42 : decode cX10_warm 42 = .ok (.iload_n 2, 1) := by decide +kernel
theorem dX10_warm_43 : decode cX10_warm 43 = .ok (.if_icmp .ge 13, 3) := by decide +kernel
theorem dX10_warm_46 : decode cX10_warm 46 = .ok (.aload_n 0, 1) := by decide +kernel
theorem dX10_warm_47 : decode cX10_warm 47 = .ok (.invokevirtual 257, 3) := by decide +kernel
theorem dX10_warm_50 : decode cX10_warm 50 = .ok (.iinc 3 1, 3) := by decide +kernel
theorem dX10_warm_53 : decode cX10_warm 53 = .ok (.goto (-12), 3) := by decide +kernel
theorem dX10_warm_56 : decode cX10_warm 56 = .ok (.aload_n 0, 1) := by decide +kernel
theorem dX10_warm_57 : decode cX10_warm 57 = .ok (.getfield 22, 3) := by decide +kernel
theorem dX10_warm_60 : decode cX10_warm 60 = .ok (.bipush 9, 2) := by decide +kernel
theorem dX10_warm_62 : decode cX10_warm 62 = .ok (.iload_n 1, 1) := by decide +kernel
theorem dX10_warm_63 : decode cX10_warm 63 = .ok (.iadd, 1) := by decide +kernel
theorem dX10_warm_64 : decode cX10_warm 64 = .ok (.iaload, 1) := by decide +kernel
theorem dX10_warm_65 : decode cX10_warm 65 = .ok (.istore_n 3, 1) := by decide +kernel
theorem dX10_warm_66 : decode cX10_warm 66 = .ok (.aload_n 0, 1) := by decide +kernel
theorem dX10_warm_67 : decode cX10_warm 67 = .ok (.getfield 47, 3) := by decide +kernel
theorem dX10_warm_70 : decode cX10_warm 70 = .ok (.aload_n 0, 1) := by decide +kernel
theorem dX10_warm_71 : decode cX10_warm 71 = .ok (.getfield 22, 3) := by decide +kernel
theorem dX10_warm_74 : decode cX10_warm 74 = .ok (.bipush 36, 2) := by decide +kernel
theorem dX10_warm_76 : decode cX10_warm 76 = .ok (.invokestatic 152, 3) := by decide +kernel
theorem dX10_warm_79 : decode cX10_warm 79 = .ok (.iload_n 3, 1) := by decide +kernel
theorem dX10_warm_80 : decode cX10_warm 80 = .ok (.ireturn, 1) := by decide +kernel
theorem dX10_warmest_0 : decode cX10_warmest 0 = .ok (.iload_n 1, 1) := by decide +kernel
theorem dX10_warmest_1 : decode cX10_warmest 1 = .ok (.i2l, 1) := by decide +kernel
theorem dX10_warmest_2 : decode cX10_warmest 2 = .ok (.lconst 0, 1) := by decide +kernel
theorem dX10_warmest_3 : decode cX10_warmest 3 = .ok (.ldc2_w 276, 3) := by decide +kernel
theorem dX10_warmest_6 : decode cX10_warmest 6 = .ok (.invokestatic 75, 3) := by decide +kernel
theorem dX10_warmest_9 : decode cX10_warmest 9 = .ok (.ifCond .ne 6, 3) := by decide +kernel
theorem dX10_warmest_12 : decode cX10_warmest 12 = .ok (.ldc 84, 2) := by decide +kernel
theorem dX10_warmest_14 : decode cX10_warmest 14 = .ok (.ireturn, 1) := by decide +kernel
theorem dX10_warmest_15 : decode cX10_warmest 15 = .ok (.aload_n 0, 1) := by decide +kernel
theorem dX10_warmest_16 : decode cX10_warmest 16 = .ok (.getfield 22, 3) := by decide +kernel
theorem dX10_warmest_19 : decode cX10_warmest 19 = .ok (.aload_n 0, 1) := by decide +kernel
theorem dX10_warmest_20 : decode cX10_warmest 20 = .ok (.getfield 47, 3) := by decide +kernel
theorem dX10_warmest_23 : decode cX10_warmest 23 = .ok (.bipush 36, 2) := by decide +kernel
theorem dX10_warmest_25 : decode cX10_warmest 25 = .ok (.invokestatic 152, 3) := by decide +kernel
theorem dX10_warmest_28 : decode cX10_warmest 28 = .ok (.iconst 0, 1) := by decide +kernel
theorem dX10_warmest_29 : decode cX10_warmest 29 = .ok (.istore_n 2, 1) := by decide +kernel
theorem dX10_warmest_30 : decode cX10_warmest 30 = .ok (.iload_n 2, 1) := by decide +kernel
theorem dX10_warmest_31 : decode cX10_warmest 31 = .ok (.iload_n 1, 1) := by decide +kernel
theorem dX10_warmest_32 : decode cX10_warmest 32 = .ok (.if_icmp .ge 13, 3) := by decide +kernel
theorem dX10_warmest_35 : decode cX10_warmest 35 = .ok (.aload_n 0, 1) := by decide +kernel
theorem dX10_warmest_36 : decode cX10_warmest 36 = .ok (.invokevirtual 257, 3) := by decide +kernel
theorem dX10_warmest_39 : decode cX10_warmest 39 = .ok (.iinc 2 1, 3) := by decide +kernel
theorem dX10_warmest_42 : decode cX10_warmest 42 = .ok (.goto (-12), 3) := by decide +kernel
theorem dX10_warmest_45 : decode cX10_warmest 45 = .ok (.iconst (-1), 1) := by decide +kernel
theorem dX10_warmest_46 : decode cX10_warmest 46 = .ok (.istore_n 2, 1) := by decide +kernel
theorem dX10_warmest_47 : decode cX10_warmest 47 = .ok (.iconst 0, 1) := by decide +kernel
theorem dX10_warmest_48 : decode cX10_warmest 48 = .ok (.istore_n 3, 1) := by decide +kernel
theorem dX10_warmest_49 : decode cX10_warmest 49 = .ok (.iload_n 3, 1) := by decide +kernel
theorem dX10_warmest_50 : decode cX10_warmest 50 = .ok (.aload_n 0, 1) := by decide +kernel
theorem dX10_warmest_51 : decode cX10_warmest 51 = .ok (.getfield 79, 3) := by decide +kernel
theorem dX10_warmest_54 : decode cX10_warmest 54 = .ok (.if_icmp .ge 40, 3) := by decide +kernel
theorem dX10_warmest_57 : decode cX10_warmest 57 = .ok (.iload_n 2, 1) := by decide +kernel
theorem dX10_warmest_58 : decode cX10_warmest 58 = .ok (.ifCond .lt 24, 3) := by decide +kernel
theorem dX10_warmest_61 : decode cX10_warmest 61 = .ok (.aload_n 0, 1) := by decide +kernel
theorem dX10_warmest_62 : decode cX10_warmest 62 = .ok (.getfield 22, 3) := by decide +kernel
theorem dX10_warmest_65 : decode cX10_warmest 65 = .ok (.bipush 9, 2) := by decide +kernel
theorem dX10_warmest_67 : decode cX10_warmest 67 = .ok (.iload_n 3, 1) := by decide +kernel
theorem dX10_warmest_68 : decode cX10_warmest 68 = .ok (.iadd, 1) := by decide +kernel
theorem dX10_warmest_69 : decode cX10_warmest 69 = .ok (.iaload, 1) := by decide +kernel
theorem dX10_warmest_70 : decode cX10_warmest 70 = .ok (.aload_n 0, 1) := by decide +kernel
theorem dX10_warmest_71 : decode cX10_warmest 71 = .ok (.getfield 22, 3) := by decide +kernel
theorem dX10_warmest_74 : decode cX10_warmest 74 = .ok (.bipush 9, 2) := by decide +kernel
theorem dX10_warmest_76 : decode cX10_warmest 76 = .ok (.iload_n 2, 1) := by decide +kernel
theorem dX10_warmest_77 : decode cX10_warmest 77 = .ok (.iadd, 1) := by decide +kernel
theorem dX10_warmest_78 : decode cX10_warmest 78 = .ok (.iaload, 1) := by decide +kernel
theorem dX10_warmest_79 : decode cX10_warmest 79 = .ok (.if_icmp .le 7, 3) := by decide +kernel
theorem dX10_warmest_82 : decode cX10_warmest 82 = .ok (.iload_n 3, 1) := by decide +kernel
theorem dX10_warmest_83 : decode cX10_warmest 83 = .ok (.goto 4, 3) := by decide +kernel
theorem dX10_warmest_86 : decode cX10_warmest 86 = .ok (.iload_n 2, 1) := by decide +kernel
theorem dX10_warmest_87 : decode cX10_warmest 87 = .ok (.istore_n 2, 1) := by decide +kernel
theorem dX10_warmest_88 : decode cX10_warmest 88 = .ok (.iinc 3 1, 3) := by decide +kernel
theorem dX10_warmest_91 : decode cX10_warmest 91 = .ok (.goto (-42), 3) := by decide +kernel
theorem dX10_warmest_94 : decode cX10_warmest 94 = .ok (.aload_n 0, 1) := by decide +kernel
theorem dX10_warmest_95 : decode cX10_warmest 95 = .ok (.getfield 47, 3) := by decide +kernel
theorem dX10_warmest_98 : decode cX10_warmest 98 = .ok (.aload_n 0, 1) := by decide +kernel
theorem dX10_warmest_99 : decode cX10_warmest 99 = .ok (.getfield 22, 3) := by decide +kernel
theorem dX10_warmest_102 : decode cX10_warmest 102 = .ok (.bipush 36, 2) := by decide +kernel
theorem dX10_warmest_104 : decode cX10_warmest 104 = .ok (.invokestatic 152, 3) := by decide +kernel
theorem dX10_warmest_107 : decode cX10_warmest 107 = .ok (.iload_n 2, 1) := by decide +kernel
theorem dX10_warmest_108 : decode cX10_warmest 108 = .ok (.ireturn, 1) := by decide +kernel
theorem dX10_first_0 : decode cX10_first 0 = .ok (.aload_n 0, 1) := by decide +kernel
theorem dX10_first_1 : decode cX10_first 1 = .ok (.iload_n 1, 1) := by decide +kernel
theorem dX10_first_2 : decode cX10_first 2 = .ok (.invokevirtual 215, 3) := by decide +kernel
theorem dX10_first_5 : decode cX10_first 5 = .ok (.ifCond .ne 6, 3) := by decide +kernel
theorem dX10_first_8 : decode cX10_first 8 = .ok (.ldc 218, 2) := by decide +kernel
theorem dX10_first_10 : decode cX10_first 10 = .ok (.ireturn, 1) := by decide +kernel
theorem dX10_first_11 : decode cX10_first 11 = .ok (.iload_n 2, 1) := by decide +kernel
theorem dX10_first_12 : decode cX10_first 12 = .ok (.i2l, 1) := by decide +kernel
theorem dX10_first_13 : decode cX10_first 13 = .ok (.lconst 0, 1) := by decide +kernel
theorem dX10_first_14 : decode cX10_first 14 = .ok (.ldc2_w 278, 3) := by decide +kernel
theorem dX10_first_17 : decode cX10_first 17 = .ok (.invokestatic 75, 3) := by decide +kernel
theorem dX10_first_20 : decode cX10_first 20 = .ok (.ifCond .ne 6, 3) := by decide +kernel
theorem dX10_first_23 : decode cX10_first 23 = .ok (.ldc 84, 2) := by decide +kernel
theorem dX10_first_25 : decode cX10_first 25 = .ok (.ireturn, 1) := by decide +kernel
theorem dX10_first_26 : decode cX10_first 26 = .ok (.aload_n 0, 1) := by decide +kernel
theorem dX10_first_27 : decode cX10_first 27 = .ok (.getfield 22, 3) := by decide +kernel
theorem dX10_first_30 : decode cX10_first 30 = .ok (.aload_n 0, 1) := by decide +kernel
theorem dX10_first_31 : decode cX10_first 31 = .ok (.getfield 47, 3) := by decide +kernel
theorem dX10_first_34 : decode cX10_first 34 = .ok (.bipush 36, 2) := by decide +kernel
theorem dX10_first_36 : decode cX10_first 36 = .ok (.invokestatic 152, 3) := by decide +kernel
theorem dX10_first_39 : decode cX10_first 39 = .ok (.iconst 0, 1) := by decide +kernel
theorem dX10_first_40 : decode cX10_first 40 = .ok (.istore_n 3, 1) := by decide +kernel
theorem dX10_first_41 : decode cX10_first 41 = .ok (.iload_n 3, 1) := by decide +kernel
theorem dX10_first_42 : decode cX10_first 42 = .ok (.sipush 200, 3) := by decide +kernel
theorem dX10_first_45 : decode cX10_first 45 = .ok (.if_icmp .ge 26, 3) := by decide +kernel
theorem dX10_first_48 : decode cX10_first 48 = .ok (.aload_n 0, 1) := by decide +kernel
theorem dX10_first_49 : decode cX10_first 49 = .ok (.getfield 22, 3) := by decide +kernel
theorem dX10_first_52 : decode cX10_first 52 = .ok (.bipush 9, 2) := by decide +kernel
theorem dX10_first_54 : decode cX10_first 54 = .ok (.iload_n 1, 1) := by decide +kernel
theorem dX10_first_55 : decode cX10_first 55 = .ok (.iadd, 1) := by decide +kernel
theorem dX10_first_56 : decode cX10_first 56 = .ok (.iaload, 1) := by decide +kernel
theorem dX10_first_57 : decode cX10_first 57 = .ok (.iload_n 2, 1) := by decide +kernel
theorem dX10_first_58 : decode cX10_first 58 = .ok (.if_icmp .ge 13, 3) := by decide +kernel
theorem dX10_first_61 : decode cX10_first 61 = .ok (.aload_n 0, 1) := by decide +kernel
theorem dX10_first_62 : decode cX10_first 62 = .ok (.invokevirtual 257, 3) := by decide +kernel
theorem dX10_first_65 : decode cX10_first 65 = .ok (.iinc 3 1, 3) := by decide +kernel
theorem dX10_first_68 : decode cX10_first 68 = .ok (.goto (-27), 3) := by decide +kernel
theorem dX10_first_71 : decode cX10_first 71 = .ok (.aload_n 0, 1) := by decide +kernel
theorem dX10_first_72 : decode cX10_first 72 = .ok (.getfield 22, 3) := by decide +kernel
theorem dX10_first_75 : decode cX10_first 75 = .ok (.bipush 9, 2) := by decide +kernel
theorem dX10_first_77 : decode cX10_first 77 = .ok (.iload_n 1, 1) := by decide +kernel
theorem dX10_first_78 : decode cX10_first 78 = .ok (.iadd, 1) := by decide +kernel
theorem dX10_first_79 : decode cX10_first 79 = .ok (.iaload, 1) := by decide +kernel
theorem dX10_first_80 : decode cX10_first 80 = .ok (.iload_n 2, 1) := by decide +kernel
theorem dX10_first_81 : decode cX10_first 81 = .ok (.if_icmp .ge 7, 3) := by decide +kernel
theorem dX10_first_84 : decode cX10_first 84 = .ok (.iconst (-1), 1) := by decide +kernel
theorem dX10_first_85 : decode cX10_first 85 = .ok (.goto 4, 3) := by decide +kernel
theorem dX10_first_88 : decode cX10_first 88 = .ok (.iload_n 3, 1) := by decide +kernel
theorem dX10_first_89 : decode cX10_first 89 = .ok (.istore 4, 2) := by decide +kernel
theorem dX10_first_91 : decode cX10_first 91 = .ok (.aload_n 0, 1) := by decide +kernel
theorem dX10_first_92 : decode cX10_first 92 = .ok (.getfield 47, 3) := by decide +kernel
theorem dX10_first_95 : decode cX10_first 95 = .ok (.aload_n 0, 1) := by decide +kernel
theorem dX10_first_96 : decode cX10_first 96 = .ok (.getfield 22, 3) := by decide +kernel
theorem dX10_first_99 : decode cX10_first 99 = .ok (.bipush 36, 2) := by decide +kernel
theorem dX10_first_101 : decode cX10_first 101 = .ok (.invokestatic 152, 3) := by decide +kernel
theorem dX10_first_104 : decode cX10_first 104 = .ok (.iload 4, 2) := by decide +kernel
theorem dX10_first_106 : decode cX10_first 106 = .ok (.ireturn, 1) := by decide +kernel
theorem dX10_isBalanced_0 : decode cX10_isBalanced 0 = .ok (.iconst 1, 1) := by decide +kernel
theorem dX10_isBalanced_1 : decode cX10_isBalanced 1 = .ok (.istore_n 2, 1) := by decide +kernel
theorem dX10_isBalanced_2 : decode cX10_isBalanced 2 = .ok (.iconst 0, 1) := by decide +kernel
theorem dX10_isBalanced_3 : decode cX10_isBalanced 3 = .ok (.istore_n 3, 1) := by decide +kernel
theorem dX10_isBalanced_4 : decode cX10_isBalanced 4 = .ok (.iload_n 3, 1) := by decide +kernel
theorem dX10_isBalanced_5 : decode cX10_isBalanced 5 = .ok (.aload_n 0, 1) := by decide +kernel
theorem dX10_isBalanced_6 : decode cX10_isBalanced 6 = .ok (.getfield 72, 3) := by decide +kernel
theorem dX10_isBalanced_9 : decode cX10_isBalanced 9 = .ok (.if_icmp .ge 42, 3) := by decide +kernel
theorem dX10_isBalanced_12 : decode cX10_isBalanced 12 = .ok (.iload_n 2, 1) := by decide +kernel
theorem dX10_isBalanced_13 : decode cX10_isBalanced 13 = .ok (.ifCond .eq 30, 3) := by decide +kernel
theorem dX10_isBalanced_16 : decode cX10_isBalanced 16 = .ok (.iload_n 1, 1) := by decide +kernel
theorem dX10_isBalanced_17 : decode cX10_isBalanced 17 = .ok (.aload_n 0, 1) := by decide +kernel
theorem dX10_isBalanced_18 : decode cX10_isBalanced 18 = .ok (.iload_n 3, 1) := by decide +kernel
theorem dX10_isBalanced_19 : decode cX10_isBalanced 19 = .ok (.invokevirtual 179, 3) := by decide +kernel
theorem dX10_isBalanced_22 : decode cX10_isBalanced 22 = .ok (.iand, 1) := by decide +kernel
theorem dX10_isBalanced_23 : decode cX10_isBalanced 23 = .ok (.invokestatic 188, 3) := by decide +kernel
theorem dX10_isBalanced_26 : decode cX10_isBalanced 26 = .ok (.iload_n 1, 1) := by decide +kernel
theorem dX10_isBalanced_27 : decode cX10_isBalanced 27 = .ok (.aload_n 0, 1) := by decide +kernel
theorem dX10_isBalanced_28 : decode cX10_isBalanced 28 = .ok (.iload_n 3, 1) := by decide +kernel
theorem dX10_isBalanced_29 : decode cX10_isBalanced 29 = .ok (.invokevirtual 222, 3) := by decide +kernel
theorem dX10_isBalanced_32 : decode cX10_isBalanced 32 = .ok (.iand, 1) := by decide +kernel
theorem dX10_isBalanced_33 : decode cX10_isBalanced 33 = .ok (.invokestatic 188, 3) := by decide +kernel
theorem dX10_isBalanced_36 : decode cX10_isBalanced 36 = .ok (.if_icmp .ne 7, 3) := by decide +kernel
theorem dX10_isBalanced_39 : decode cX10_isBalanced 39 = .ok (.iconst 1, 1) := by decide +kernel
theorem dX10_isBalanced_40 : decode cX10_isBalanced 40 = .ok (.goto 4, 3) := by decide +kernel
theorem dX10_isBalanced_43 : decode cX10_isBalanced 43 = .ok (.iconst 0, 1) := by decide +kernel
theorem dX10_isBalanced_44 : decode cX10_isBalanced 44 = .ok (.istore_n 2, 1) := by decide +kernel
theorem dX10_isBalanced_45 : decode cX10_isBalanced 45 = .ok (.iinc 3 1, 3) := by decide +kernel
theorem dX10_isBalanced_48 : decode cX10_isBalanced 48 = .ok (.goto (-44), 3) := by decide +kernel
theorem dX10_isBalanced_51 : decode cX10_isBalanced 51 = .ok (.iload_n 2, 1) := by decide +kernel
theorem dX10_isBalanced_52 : decode cX10_isBalanced 52 = .ok (.ireturn, 1) := by decide +kernel
theorem dX10_findRings_0 : decode cX10_findRings 0 = .ok (.iconst 0, 1) := by decide +kernel
theorem dX10_findRings_1 : decode cX10_findRings 1 = .ok (.istore_n 1, 1) := by decide +kernel
theorem dX10_findRings_2 : decode cX10_findRings 2 = .ok (.iload_n 1, 1) := by decide +kernel
theorem dX10_findRings_3 : decode cX10_findRings 3 = .ok (.iconst 1, 1) := by decide +kernel
theorem dX10_findRings_4 : decode cX10_findRings 4 = .ok (.aload_n 0, 1) := by decide +kernel
theorem dX10_findRings_5 : decode cX10_findRings 5 = .ok (.getfield 79, 3) := by decide +kernel
theorem dX10_findRings_8 : decode cX10_findRings 8 = .ok (.ishl, 1) := by decide +kernel
theorem dX10_findRings_9 : decode cX10_findRings 9 = .ok (.if_icmp .ge 20, 3) := by decide +kernel
theorem dX10_findRings_12 : decode cX10_findRings 12 = .ok (.aload_n 0, 1) := by decide +kernel
theorem dX10_findRings_13 : decode cX10_findRings 13 = .ok (.getfield 53, 3) := by decide +kernel
theorem dX10_findRings_16 : decode cX10_findRings 16 = .ok (.iload_n 1, 1) := by decide +kernel
theorem dX10_findRings_17 : decode cX10_findRings 17 = .ok (.aload_n 0, 1) := by decide +kernel
theorem dX10_findRings_18 : decode cX10_findRings 18 = .ok (.iload_n 1, 1) := by decide +kernel
theorem dX10_findRings_19 : decode cX10_findRings 19 = .ok (.invokevirtual 280, 3) := by decide +kernel
theorem dX10_findRings_22 : decode cX10_findRings 22 = .ok (.bastore, 1) := by decide +kernel
theorem dX10_findRings_23 : decode cX10_findRings 23 = .ok (.iinc 1 1, 3) := by decide +kernel
theorem dX10_findRings_26 : decode cX10_findRings 26 = .ok (.goto (-24), 3) := by decide +kernel
theorem dX10_findRings_29 : decode cX10_findRings 29 = .ok (.aload_n 0, 1) := by decide +kernel
theorem dX10_findRings_30 : decode cX10_findRings 30 = .ok (.getfield 50, 3) := by decide +kernel
theorem dX10_findRings_33 : decode cX10_findRings 33 = .ok (.iconst 0, 1) := by decide +kernel
theorem dX10_findRings_34 : decode cX10_findRings 34 = .ok (.iconst 0, 1) := by decide +kernel
theorem dX10_findRings_35 : decode cX10_findRings 35 = .ok (.iastore, 1) := by decide +kernel
