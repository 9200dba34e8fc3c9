theorem dX10_takeCourts_26 : decode cX10_takeCourts 26 = .ok (.bipush 44, 2) := by decide +kernel
theorem dX10_takeCourts_28 : decode cX10_takeCourts 28 = .ok (.if_icmp .ne 61, 3) := by decide +kernel
theorem dX10_takeCourts_31 : decode cX10_takeCourts 31 = .ok (.aload_n 0, 1) := by decide +kernel
theorem dX10_takeCourts_32 : decode cX10_takeCourts 32 = .ok (.getfield 117, 3) := by decide +kernel
theorem dX10_takeCourts_35 : decode cX10_takeCourts 35 = .ok (.bipush 7, 2) := by decide +kernel
theorem dX10_takeCourts_37 : decode cX10_takeCourts 37 = .ok (.if_icmp .ne 13, 3) := by decide +kernel
theorem dX10_takeCourts_40 : decode cX10_takeCourts 40 = .ok (.aload_n 0, 1) := by decide +kernel
theorem dX10_takeCourts_41 : decode cX10_takeCourts 41 = .ok (.iconst 1, 1) := by decide +kernel
theorem dX10_takeCourts_42 : decode cX10_takeCourts 42 = .ok (.aload_n 0, 1) := by decide +kernel
theorem dX10_takeCourts_43 : decode cX10_takeCourts 43 = .ok (.getfield 89, 3) := by decide +kernel
theorem dX10_takeCourts_46 : decode cX10_takeCourts 46 = .ok (.invokevirtual 100, 3) := by decide +kernel
theorem dX10_takeCourts_49 : decode cX10_takeCourts 49 = .ok (.ireturn, 1) := by decide +kernel
theorem dX10_takeCourts_50 : decode cX10_takeCourts 50 = .ok (.aload_n 0, 1) := by decide +kernel
theorem dX10_takeCourts_51 : decode cX10_takeCourts 51 = .ok (.dup, 1) := by decide +kernel
theorem dX10_takeCourts_52 : decode cX10_takeCourts 52 = .ok (.getfield 89, 3) := by decide +kernel
theorem dX10_takeCourts_55 : decode cX10_takeCourts 55 = .ok (.iconst 1, 1) := by decide +kernel
theorem dX10_takeCourts_56 : decode cX10_takeCourts 56 = .ok (.iadd, 1) := by decide +kernel
theorem dX10_takeCourts_57 : decode cX10_takeCourts 57 = .ok (.putfield 89, 3) := by decide +kernel
theorem dX10_takeCourts_60 : decode cX10_takeCourts 60 = .ok (.aload_n 0, 1) := by decide +kernel
theorem dX10_takeCourts_61 : decode cX10_takeCourts 61 = .ok (.aload_n 0, 1) := by decide +kernel
theorem dX10_takeCourts_62 : decode cX10_takeCourts 62 = .ok (.getfield 32, 3) := by decide +kernel
theorem dX10_takeCourts_65 : decode cX10_takeCourts 65 = .ok (.aload_n 0, 1) := by decide +kernel
theorem dX10_takeCourts_66 : decode cX10_takeCourts 66 = .ok (.getfield 117, 3) := by decide +kernel
theorem dX10_takeCourts_69 : decode cX10_takeCourts 69 = .ok (.iconst 1, 1) := by decide +kernel
theorem dX10_takeCourts_70 : decode cX10_takeCourts 70 = .ok (.bipush 9, 2) := by decide +kernel
theorem dX10_takeCourts_72 : decode cX10_takeCourts 72 = .ok (.invokevirtual 113, 3) := by decide +kernel
theorem dX10_takeCourts_75 : decode cX10_takeCourts 75 = .ok (.istore_n 1, 1) := by decide +kernel
theorem dX10_takeCourts_76 : decode cX10_takeCourts 76 = .ok (.aload_n 0, 1) := by decide +kernel
theorem dX10_takeCourts_77 : decode cX10_takeCourts 77 = .ok (.dup, 1) := by decide +kernel
theorem dX10_takeCourts_78 : decode cX10_takeCourts 78 = .ok (.getfield 117, 3) := by decide +kernel
theorem dX10_takeCourts_81 : decode cX10_takeCourts 81 = .ok (.iconst 1, 1) := by decide +kernel
theorem dX10_takeCourts_82 : decode cX10_takeCourts 82 = .ok (.iadd, 1) := by decide +kernel
theorem dX10_takeCourts_83 : decode cX10_takeCourts 83 = .ok (.putfield 117, 3) := by decide +kernel
theorem dX10_takeCourts_86 : decode cX10_takeCourts 86 = .ok (.goto (-68), 3) := by decide +kernel
theorem dX10_takeCourts_89 : decode cX10_takeCourts 89 = .ok (.iload_n 1, 1) := by decide +kernel
theorem dX10_takeCourts_90 : decode cX10_takeCourts 90 = .ok (.ifCond .ne 23, 3) := by decide +kernel
theorem dX10_takeCourts_93 : decode cX10_takeCourts 93 = .ok (.aload_n 0, 1) := by decide +kernel
theorem dX10_takeCourts_94 : decode cX10_takeCourts 94 = .ok (.getfield 117, 3) := by decide +kernel
theorem dX10_takeCourts_97 : decode cX10_takeCourts 97 = .ok (.iconst 1, 1) := by decide +kernel
theorem dX10_takeCourts_98 : decode cX10_takeCourts 98 = .ok (.if_icmp .ne 15, 3) := by decide +kernel
theorem dX10_takeCourts_101 : decode cX10_takeCourts 101 = .ok (.aload_n 0, 1) := by decide +kernel
theorem dX10_takeCourts_102 : decode cX10_takeCourts 102 = .ok (.iconst 1, 1) := by decide +kernel
theorem dX10_takeCourts_103 : decode cX10_takeCourts 103 = .ok (.aload_n 0, 1) := by decide +kernel
theorem dX10_takeCourts_104 : decode cX10_takeCourts 104 = .ok (.getfield 89, 3) := by decide +kernel
theorem dX10_takeCourts_107 : decode cX10_takeCourts 107 = .ok (.invokevirtual 100, 3) := by decide +kernel
theorem dX10_takeCourts_110 : decode cX10_takeCourts 110 = .ok (.goto 4, 3) := by decide +kernel
theorem dX10_takeCourts_113 : decode cX10_takeCourts 113 = .ok (.iload_n 1, 1) := by decide +kernel
theorem dX10_takeCourts_114 : decode cX10_takeCourts 114 = .ok (.ireturn, 1) := by decide +kernel
theorem dX10_takeDoll_0 : decode cX10_takeDoll 0 = .ok (.aload_n 0, 1) := by decide +kernel
theorem dX10_takeDoll_1 : decode cX10_takeDoll 1 = .ok (.getfield 120, 3) := by decide +kernel
theorem dX10_takeDoll_4 : decode cX10_takeDoll 4 = .ok (.istore_n 1, 1) := by decide +kernel
theorem dX10_takeDoll_5 : decode cX10_takeDoll 5 = .ok (.aload_n 0, 1) := by decide +kernel
theorem dX10_takeDoll_6 : decode cX10_takeDoll 6 = .ok (.dup, 1) := by decide +kernel
theorem dX10_takeDoll_7 : decode cX10_takeDoll 7 = .ok (.getfield 120, 3) := by decide +kernel
theorem dX10_takeDoll_10 : decode cX10_takeDoll 10 = .ok (.iconst 1, 1) := by decide +kernel
theorem dX10_takeDoll_11 : decode cX10_takeDoll 11 = .ok (.iadd, 1) := by decide +kernel
theorem dX10_takeDoll_12 : decode cX10_takeDoll 12 = .ok (.putfield 120, 3) := by decide +kernel
theorem dX10_takeDoll_15 : decode cX10_takeDoll 15 = .ok (.aload_n 0, 1) := by decide +kernel
theorem dX10_takeDoll_16 : decode cX10_takeDoll 16 = .ok (.aload_n 0, 1) := by decide +kernel
theorem dX10_takeDoll_17 : decode cX10_takeDoll 17 = .ok (.getfield 35, 3) := by decide +kernel
theorem dX10_takeDoll_20 : decode cX10_takeDoll 20 = .ok (.iload_n 1, 1) := by decide +kernel
theorem dX10_takeDoll_21 : decode cX10_takeDoll 21 = .ok (.iconst 0, 1) := by decide +kernel
theorem dX10_takeDoll_22 : decode cX10_takeDoll 22 = .ok (.iconst 3, 1) := by decide +kernel
theorem dX10_takeDoll_23 : decode cX10_takeDoll 23 = .ok (.invokevirtual 113, 3) := by decide +kernel
theorem dX10_takeDoll_26 : decode cX10_takeDoll 26 = .ok (.istore_n 2, 1) := by decide +kernel
theorem dX10_takeDoll_27 : decode cX10_takeDoll 27 = .ok (.iload_n 2, 1) := by decide +kernel
theorem dX10_takeDoll_28 : decode cX10_takeDoll 28 = .ok (.ifCond .le 7, 3) := by decide +kernel
theorem dX10_takeDoll_31 : decode cX10_takeDoll 31 = .ok (.iload_n 2, 1) := by decide +kernel
theorem dX10_takeDoll_32 : decode cX10_takeDoll 32 = .ok (.goto 19, 3) := by decide +kernel
theorem dX10_takeDoll_35 : decode cX10_takeDoll 35 = .ok (.aload_n 0, 1) := by decide +kernel
theorem dX10_takeDoll_36 : decode cX10_takeDoll 36 = .ok (.aload_n 0, 1) := by decide +kernel
theorem dX10_takeDoll_37 : decode cX10_takeDoll 37 = .ok (.getfield 38, 3) := by decide +kernel
theorem dX10_takeDoll_40 : decode cX10_takeDoll 40 = .ok (.iload_n 1, 1) := by decide +kernel
theorem dX10_takeDoll_41 : decode cX10_takeDoll 41 = .ok (.iconst 0, 1) := by decide +kernel
theorem dX10_takeDoll_42 : decode cX10_takeDoll 42 = .ok (.aload_n 0, 1) := by decide +kernel
theorem dX10_takeDoll_43 : decode cX10_takeDoll 43 = .ok (.getfield 117, 3) := by decide +kernel
theorem dX10_takeDoll_46 : decode cX10_takeDoll 46 = .ok (.iconst 1, 1) := by decide +kernel
theorem dX10_takeDoll_47 : decode cX10_takeDoll 47 = .ok (.isub, 1) := by decide +kernel
theorem dX10_takeDoll_48 : decode cX10_takeDoll 48 = .ok (.invokevirtual 113, 3) := by decide +kernel
theorem dX10_takeDoll_51 : decode cX10_takeDoll 51 = .ok (.istore_n 2, 1) := by decide +kernel
theorem dX10_takeDoll_52 : decode cX10_takeDoll 52 = .ok (.iload_n 2, 1) := by decide +kernel
theorem dX10_takeDoll_53 : decode cX10_takeDoll 53 = .ok (.ifCond .le 7, 3) := by decide +kernel
theorem dX10_takeDoll_56 : decode cX10_takeDoll 56 = .ok (.iload_n 2, 1) := by decide +kernel
theorem dX10_takeDoll_57 : decode cX10_takeDoll 57 = .ok (.goto 15, 3) := by decide +kernel
theorem dX10_takeDoll_60 : decode cX10_takeDoll 60 = .ok (.aload_n 0, 1) := by decide +kernel
theorem dX10_takeDoll_61 : decode cX10_takeDoll 61 = .ok (.aload_n 0, 1) := by decide +kernel
theorem dX10_takeDoll_62 : decode cX10_takeDoll 62 = .ok (.getfield 41, 3) := by decide +kernel
theorem dX10_takeDoll_65 : decode cX10_takeDoll 65 = .ok (.iload_n 1, 1) := by decide +kernel
theorem dX10_takeDoll_66 : decode cX10_takeDoll 66 = .ok (.iconst 0, 1) := by decide +kernel
theorem dX10_takeDoll_67 : decode cX10_takeDoll 67 = .ok (.bipush 63, 2) := by decide +kernel
theorem dX10_takeDoll_69 : decode cX10_takeDoll 69 = .ok (.invokevirtual 113, 3) := by decide +kernel
theorem dX10_takeDoll_72 : decode cX10_takeDoll 72 = .ok (.ireturn, 1) := by decide +kernel
theorem dX10_takePattern_0 : decode cX10_takePattern 0 = .ok (.aload_n 0, 1) := by decide +kernel
theorem dX10_takePattern_1 : decode cX10_takePattern 1 = .ok (.iconst 1, 1) := by decide +kernel
theorem dX10_takePattern_2 : decode cX10_takePattern 2 = .ok (.putfield 123, 3) := by decide +kernel
theorem dX10_takePattern_5 : decode cX10_takePattern 5 = .ok (.aload_n 0, 1) := by decide +kernel
theorem dX10_takePattern_6 : decode cX10_takePattern 6 = .ok (.iconst 0, 1) := by decide +kernel
theorem dX10_takePattern_7 : decode cX10_takePattern 7 = .ok (.bipush 63, 2) := by decide +kernel
theorem dX10_takePattern_9 : decode cX10_takePattern 9 = .ok (.invokevirtual 110, 3) := by decide +kernel
theorem dX10_takePattern_12 : decode cX10_takePattern 12 = .ok (.istore_n 1, 1) := by decide +kernel
theorem dX10_takePattern_13 : decode cX10_takePattern 13 = .ok (.aload_n 0, 1) := by decide +kernel
theorem dX10_takePattern_14 : decode cX10_takePattern 14 = .ok (.aload_n 0, 1) := by decide +kernel
theorem dX10_takePattern_15 : decode cX10_takePattern 15 = .ok (.getfield 107, 3) := by decide +kernel
theorem dX10_takePattern_18 : decode cX10_takePattern 18 = .ok (.putfield 127, 3) := by decide +kernel
theorem dX10_takePattern_21 : decode cX10_takePattern 21 = .ok (.iload_n 1, 1) := by decide +kernel
theorem dX10_takePattern_22 : decode cX10_takePattern 22 = .ok (.ireturn, 1) := by decide +kernel
theorem dX10_takeQuota_0 : decode cX10_takeQuota 0 = .ok (.aload_n 0, 1) := by decide +kernel
theorem dX10_takeQuota_1 : decode cX10_takeQuota 1 = .ok (.iconst 1, 1) := by decide +kernel
theorem dX10_takeQuota_2 : decode cX10_takeQuota 2 = .ok (.bipush 63, 2) := by decide +kernel
theorem dX10_takeQuota_4 : decode cX10_takeQuota 4 = .ok (.invokevirtual 110, 3) := by decide +kernel
theorem dX10_takeQuota_7 : decode cX10_takeQuota 7 = .ok (.istore_n 1, 1) := by decide +kernel
theorem dX10_takeQuota_8 : decode cX10_takeQuota 8 = .ok (.aload_n 0, 1) := by decide +kernel
theorem dX10_takeQuota_9 : decode cX10_takeQuota 9 = .ok (.aload_n 0, 1) := by decide +kernel
theorem dX10_takeQuota_10 : decode cX10_takeQuota 10 = .ok (.getfield 107, 3) := by decide +kernel
theorem dX10_takeQuota_13 : decode cX10_takeQuota 13 = .ok (.putfield 130, 3) := by decide +kernel
theorem dX10_takeQuota_16 : decode cX10_takeQuota 16 = .ok (.iload_n 1, 1) := by decide +kernel
theorem dX10_takeQuota_17 : decode cX10_takeQuota 17 = .ok (.ireturn, 1) := by decide +kernel
theorem dX10_isFull_0 : decode cX10_isFull 0 = .ok (.iload_n 1, 1) := by decide +kernel
theorem dX10_isFull_1 : decode cX10_isFull 1 = .ok (.tableswitch 60 0 2 #[27, 40, 55], 27) := by decide +kernel
theorem dX10_isFull_28 : decode cX10_isFull 28 = .ok (.aload_n 0, 1) := by decide +kernel
theorem dX10_isFull_29 : decode cX10_isFull 29 = .ok (.getfield 117, 3) := by decide +kernel
theorem dX10_isFull_32 : decode cX10_isFull 32 = .ok (.ifCond .le 7, 3) := by decide +kernel
theorem dX10_isFull_35 : decode cX10_isFull 35 = .ok (.iconst 1, 1) := by decide +kernel
theorem dX10_isFull_36 : decode cX10_isFull 36 = .ok (.goto 4, 3) := by decide +kernel
theorem dX10_isFull_39 : decode cX10_isFull 39 = .ok (.iconst 0, 1) := by decide +kernel
theorem dX10_isFull_40 : decode cX10_isFull 40 = .ok (.ireturn, 1) := by decide +kernel
theorem dX10_isFull_41 : decode cX10_isFull 41 = .ok (.aload_n 0, 1) := by decide +kernel
theorem dX10_isFull_42 : decode cX10_isFull 42 = .ok (.getfield 120, 3) := by decide +kernel
theorem dX10_isFull_45 : decode cX10_isFull 45 = .ok (.bipush 8, 2) := by decide +kernel
theorem dX10_isFull_47 : decode cX10_isFull 47 = .ok (.if_icmp .ne 7, 3) := by decide +kernel
theorem dX10_isFull_50 : decode cX10_isFull 50 = .ok (.iconst 1, 1) := by decide +kernel
theorem dX10_isFull_51 : decode cX10_isFull 51 = .ok (.goto 4, 3) := by decide +kernel
theorem dX10_isFull_54 : decode cX10_isFull 54 = .ok (.iconst 0, 1) := by decide +kernel
theorem dX10_isFull_55 : decode cX10_isFull 55 = .ok (.ireturn, 1) := by decide +kernel
theorem dX10_isFull_56 : decode cX10_isFull 56 = .ok (.aload_n 0, 1) := by decide +kernel
theorem dX10_isFull_57 : decode cX10_isFull 57 = .ok (.getfield 123, 3) := by decide +kernel
theorem dX10_isFull_60 : decode cX10_isFull 60 = .ok (.ireturn, 1) := by decide +kernel
theorem dX10_isFull_61 : decode cX10_isFull 61 = .ok (.aload_n 0, 1) := by decide +kernel
theorem dX10_isFull_62 : decode cX10_isFull 62 = .ok (.getfield 130, 3) := by decide +kernel
theorem dX10_isFull_65 : decode cX10_isFull 65 = .ok (.ifCond .le 7, 3) := by decide +kernel
theorem dX10_isFull_68 : decode cX10_isFull 68 = .ok (.iconst 1, 1) := by decide +kernel
theorem dX10_isFull_69 : decode cX10_isFull 69 = .ok (.goto 4, 3) := by decide +kernel
theorem dX10_isFull_72 : decode cX10_isFull 72 = .ok (.iconst 0, 1) := by decide +kernel
theorem dX10_isFull_73 : decode cX10_isFull 73 = .ok (.ireturn, 1) := by decide +kernel
theorem dX10_takeClause_0 : decode cX10_takeClause 0 = .ok (.aload_n 0, 1) := by decide +kernel
theorem dX10_takeClause_1 : decode cX10_takeClause 1 = .ok (.invokevirtual 92, 3) := by decide +kernel
theorem dX10_takeClause_4 : decode cX10_takeClause 4 = .ok (.istore_n 1, 1) := by decide +kernel
theorem dX10_takeClause_5 : decode cX10_takeClause 5 = .ok (.iload_n 1, 1) := by decide +kernel
theorem dX10_takeClause_6 : decode cX10_takeClause 6 = .ok (.bipush 99, 2) := by decide +kernel
theorem dX10_takeClause_8 : decode cX10_takeClause 8 = .ok (.if_icmp .ne 7, 3) := by decide +kernel
theorem dX10_takeClause_11 : decode cX10_takeClause 11 = .ok (.iconst 0, 1) := by decide +kernel
theorem dX10_takeClause_12 : decode cX10_takeClause 12 = .ok (.goto 34, 3) := by decide +kernel
theorem dX10_takeClause_15 : decode cX10_takeClause 15 = .ok (.iload_n 1, 1) := by decide +kernel
theorem dX10_takeClause_16 : decode cX10_takeClause 16 = .ok (.bipush 100, 2) := by decide +kernel
theorem dX10_takeClause_18 : decode cX10_takeClause 18 = .ok (.if_icmp .ne 7, 3) := by decide +kernel
theorem dX10_takeClause_21 : decode cX10_takeClause 21 = .ok (.iconst 1, 1) := by decide +kernel
theorem dX10_takeClause_22 : decode cX10_takeClause 22 = .ok (.goto 24, 3) := by decide +kernel
theorem dX10_takeClause_25 : decode cX10_takeClause 25 = .ok (.iload_n 1, 1) := by decide +kernel
theorem dX10_takeClause_26 : decode cX10_takeClause 26 = .ok (.bipush 115, 2) := by decide +kernel
theorem dX10_takeClause_28 : decode cX10_takeClause 28 = .ok (.if_icmp .ne 7, 3) := by decide +kernel
theorem dX10_takeClause_31 : decode cX10_takeClause 31 = .ok (.iconst 2, 1) := by decide +kernel
theorem dX10_takeClause_32 : decode cX10_takeClause 32 = .ok (.goto 14, 3) := by decide +kernel
theorem dX10_takeClause_35 : decode cX10_takeClause 35 = .ok (.iload_n 1, 1) := by decide +kernel
theorem dX10_takeClause_36 : decode cX10_takeClause 36 = .ok (.bipush 113, 2) := by decide +kernel
theorem dX10_takeClause_38 : decode cX10_takeClause 38 = .ok (.if_icmp .ne 7, 3) := by decide +kernel
theorem dX10_takeClause_41 : decode cX10_takeClause 41 = .ok (.iconst 3, 1) := by decide +kernel
theorem dX10_takeClause_42 : decode cX10_takeClause 42 = .ok (.goto 4, 3) := by decide +kernel
theorem dX10_takeClause_45 : decode cX10_takeClause 45 = .ok (.iconst (-1), 1) := by decide +kernel
theorem dX10_takeClause_46 : decode cX10_takeClause 46 = .ok (.istore_n 2, 1) := by decide +kernel
theorem dX10_takeClause_47 : decode cX10_takeClause 47 = .ok (.iload_n 2, 1) := by decide +kernel
theorem dX10_takeClause_48 : decode cX10_takeClause 48 = .ok (.ifCond .lt 14, 3) := by decide +kernel
theorem dX10_takeClause_51 : decode cX10_takeClause 51 = .ok (.iload_n 2, 1) := by decide +kernel
theorem dX10_takeClause_52 : decode cX10_takeClause 52 = .ok (.ifCond .le 20, 3) := by decide +kernel
theorem dX10_takeClause_55 : decode cX10_takeClause 55 = .ok (.aload_n 0, 1) := by decide +kernel
theorem dX10_takeClause_56 : decode cX10_takeClause 56 = .ok (.getfield 117, 3) := by decide +kernel
theorem dX10_takeClause_59 : decode cX10_takeClause 59 = .ok (.ifCond .ne 13, 3) := by decide +kernel
theorem dX10_takeClause_62 : decode cX10_takeClause 62 = .ok (.aload_n 0, 1) := by decide +kernel
theorem dX10_takeClause_63 : decode cX10_takeClause 63 = .ok (.iconst 1, 1) := by decide +kernel
theorem dX10_takeClause_64 : decode cX10_takeClause 64 = .ok (.aload_n 0, 1) := by decide +kernel
theorem dX10_takeClause_65 : decode cX10_takeClause 65 = .ok (.getfield 89, 3) := by decide +kernel
theorem dX10_takeClause_68 : decode cX10_takeClause 68 = .ok (.invokevirtual 100, 3) := by decide +kernel
theorem dX10_takeClause_71 : decode cX10_takeClause 71 = .ok (.ireturn, 1) := by decide +kernel
theorem dX10_takeClause_72 : decode cX10_takeClause 72 = .ok (.aload_n 0, 1) := by decide +kernel
theorem dX10_takeClause_73 : decode cX10_takeClause 73 = .ok (.iload_n 2, 1) := by decide +kernel
theorem dX10_takeClause_74 : decode cX10_takeClause 74 = .ok (.invokevirtual 133, 3) := by decide +kernel
theorem dX10_takeClause_77 : decode cX10_takeClause 77 = .ok (.ifCond .eq 13, 3) := by decide +kernel
theorem dX10_takeClause_80 : decode cX10_takeClause 80 = .ok (.aload_n 0, 1) := by decide +kernel
theorem dX10_takeClause_81 : decode cX10_takeClause 81 = .ok (.iconst 3, 1) := by decide +kernel
theorem dX10_takeClause_82 : decode cX10_takeClause 82 = .ok (.aload_n 0, 1) := by decide +kernel
theorem dX10_takeClause_83 : decode cX10_takeClause 83 = .ok (.getfield 89, 3) := by decide +kernel
theorem dX10_takeClause_86 : decode cX10_takeClause 86 = .ok (.invokevirtual 100, 3) := by decide +kernel
theorem dX10_takeClause_89 : decode cX10_takeClause 89 = .ok (.ireturn, 1) := by decide +kernel
theorem dX10_takeClause_90 : decode cX10_takeClause 90 = .ok (.aload_n 0, 1) := by decide +kernel
theorem dX10_takeClause_91 : decode cX10_takeClause 91 = .ok (.dup, 1) := by decide +kernel
theorem dX10_takeClause_92 : decode cX10_takeClause 92 = .ok (.getfield 89, 3) := by decide +kernel
theorem dX10_takeClause_95 : decode cX10_takeClause 95 = .ok (.iconst 1, 1) := by decide +kernel
theorem dX10_takeClause_96 : decode cX10_takeClause 96 = .ok (.iadd, 1) := by decide +kernel
theorem dX10_takeClause_97 : decode cX10_takeClause 97 = .ok (.putfield 89, 3) := by decide +kernel
theorem dX10_takeClause_100 : decode cX10_takeClause 100 = .ok (.iload_n 2, 1) := by decide +kernel
theorem dX10_takeClause_101 : decode cX10_takeClause 101 = .ok (.ifCond .ne 10, 3) := by decide +kernel
theorem dX10_takeClause_104 : decode cX10_takeClause 104 = .ok (.aload_n 0, 1) := by decide +kernel
theorem dX10_takeClause_105 : decode cX10_takeClause 105 = .ok (.invokevirtual 137, 3) := by decide +kernel
theorem dX10_takeClause_108 : decode cX10_takeClause 108 = .ok (.goto 31, 3) := by decide +kernel
theorem dX10_takeClause_111 : decode cX10_takeClause 111 = .ok (.iload_n 2, 1) := by decide +kernel
theorem dX10_takeClause_112 : decode cX10_takeClause 112 = .ok (.iconst 1, 1) := by decide +kernel
theorem dX10_takeClause_113 : decode cX10_takeClause 113 = .ok (.if_icmp .ne 10, 3) := by decide +kernel
theorem dX10_takeClause_116 : decode cX10_takeClause 116 = .ok (.aload_n 0, 1) := by decide +kernel
theorem dX10_takeClause_117 : decode cX10_takeClause 117 = .ok (.invokevirtual 140, 3) := by decide +kernel
theorem dX10_takeClause_120 : decode cX10_takeClause 120 = .ok (.goto 19, 3) := by decide +kernel
theorem dX10_takeClause_123 : decode cX10_takeClause 123 = .ok (.iload_n 2, 1) := by decide +kernel
theorem dX10_takeClause_124 : decode cX10_takeClause 124 = .ok (.iconst 2, 1) := by decide +kernel
theorem dX10_takeClause_125 : decode cX10_takeClause 125 = .ok (.if_icmp .ne 10, 3) := by decide +kernel
theorem dX10_takeClause_128 : decode cX10_takeClause 128 = .ok (.aload_n 0, 1) := by decide +kernel
theorem dX10_takeClause_129 : decode cX10_takeClause 129 = .ok (.invokevirtual 143, 3) := by decide +kernel
theorem dX10_takeClause_132 : decode cX10_takeClause 132 = .ok (.goto 7, 3) := by decide +kernel
theorem dX10_takeClause_135 : decode cX10_takeClause 135 = .ok (.aload_n 0, 1) := by decide +kernel
theorem dX10_takeClause_136 : decode cX10_takeClause 136 = .ok (.invokevirtual 146, 3) := by decide +kernel
theorem dX10_takeClause_139 : decode cX10_takeClause 139 = .ok (.istore_n 3, 1) := by decide +kernel
theorem dX10_takeClause_140 : decode cX10_takeClause 140 = .ok (.iload_n 3, 1) := by decide +kernel
theorem dX10_takeClause_141 : decode cX10_takeClause 141 = .ok (.ifCond .ne 22, 3) := by decide +kernel
theorem dX10_takeClause_144 : decode cX10_takeClause 144 = .ok (.aload_n 0, 1) := by decide +kernel
theorem dX10_takeClause_145 : decode cX10_takeClause 145 = .ok (.invokevirtual 92, 3) := by decide +kernel
theorem dX10_takeClause_148 : decode cX10_takeClause 148 = .ok (.bipush 59, 2) := by decide +kernel
theorem dX10_takeClause_150 : decode cX10_takeClause 150 = .ok (.if_icmp .eq 13, 3) := by decide +kernel
theorem dX10_takeClause_153 : decode cX10_takeClause 153 = .ok (.aload_n 0, 1) := by decide +kernel
theorem dX10_takeClause_154 : decode cX10_takeClause 154 = .ok (.iconst 1, 1) := by decide +kernel
theorem dX10_takeClause_155 : decode cX10_takeClause 155 = .ok (.aload_n 0, 1) := by decide +kernel
theorem dX10_takeClause_156 : decode cX10_takeClause 156 = .ok (.getfield 89, 3) := by decide +kernel
theorem dX10_takeClause_159 : decode cX10_takeClause 159 = .ok (.invokevirtual 100, 3) := by decide +kernel
theorem dX10_takeClause_162 : decode cX10_takeClause 162 = .ok (.ireturn, 1) := by decide +kernel
theorem dX10_takeClause_163 : decode cX10_takeClause 163 = .ok (.aload_n 0, 1) := by decide +kernel
theorem dX10_takeClause_164 : decode cX10_takeClause 164 = .ok (.dup, 1) := by decide +kernel
theorem dX10_takeClause_165 : decode cX10_takeClause 165 = .ok (.getfield 89, 3) := by decide +kernel
theorem dX10_takeClause_168 : decode cX10_takeClause 168 = .ok (.iconst 1, 1) := by decide +kernel
theorem dX10_takeClause_169 : decode cX10_takeClause 169 = .ok (.iadd, 1) := by decide +kernel
theorem dX10_takeClause_170 : decode cX10_takeClause 170 = .ok (.putfield 89, 3) := by decide +kernel
theorem dX10_takeClause_173 : decode cX10_takeClause 173 = .ok (.iload_n 3, 1) := by decide +kernel
theorem dX10_takeClause_174 : decode cX10_takeClause 174 = .ok (.ireturn, 1) := by decide +kernel
theorem dX10_copyRow_0 : decode cX10_copyRow 0 = .ok (.iconst 0, 1) := by decide +kernel
theorem dX10_copyRow_1 : decode cX10_copyRow 1 = .ok (.istore_n 3, 1) := by decide +kernel
theorem dX10_copyRow_2 : decode cX10_copyRow 2 = .ok (.iload_n 3, 1) := by decide +kernel
theorem dX10_copyRow_3 : decode cX10_copyRow 3 = .ok (.iload_n 2, 1) := by decide +kernel
theorem dX10_copyRow_4 : decode cX10_copyRow 4 = .ok (.if_icmp .ge 15, 3) := by decide +kernel
theorem dX10_copyRow_7 : decode cX10_copyRow 7 = .ok (.aload_n 1, 1) := by decide +kernel
theorem dX10_copyRow_8 : decode cX10_copyRow 8 = .ok (.iload_n 3, 1) := by decide +kernel
theorem dX10_copyRow_9 : decode cX10_copyRow 9 = .ok (.aload_n 0, 1) := by decide +kernel
theorem dX10_copyRow_10 : decode cX10_copyRow 10 = .ok (.iload_n 3, 1) := by decide +kernel
theorem dX10_copyRow_11 : decode cX10_copyRow 11 = .ok (.iaload, 1) := by decide +kernel
theorem dX10_copyRow_12 : decode cX10_copyRow 12 = .ok (.iastore, 1) := by decide +kernel
theorem dX10_copyRow_13 : decode cX10_copyRow 13 = .ok (.iinc 3 1, 3) := by decide +kernel
theorem dX10_copyRow_16 : decode cX10_copyRow 16 = .ok (.goto (-14), 3) := by decide +kernel
theorem dX10_copyRow_19 : decode cX10_copyRow 19 = .ok (.return_, 1) := by decide +kernel
theorem dX10_takeRead_0 : decode cX10_takeRead 0 = .ok (.aload_n 0, 1) := by decide +kernel
theorem dX10_takeRead_1 : decode cX10_takeRead 1 = .ok (.aload_n 0, 1) := by decide +kernel
theorem dX10_takeRead_2 : decode cX10_takeRead 2 = .ok (.getfield 117, 3) := by decide +kernel
theorem dX10_takeRead_5 : decode cX10_takeRead 5 = .ok (.putfield 72, 3) := by decide +kernel
theorem dX10_takeRead_8 : decode cX10_takeRead 8 = .ok (.aload_n 0, 1) := by decide +kernel
theorem dX10_takeRead_9 : decode cX10_takeRead 9 = .ok (.aload_n 0, 1) := by decide +kernel
theorem dX10_takeRead_10 : decode cX10_takeRead 10 = .ok (.getfield 120, 3) := by decide +kernel
theorem dX10_takeRead_13 : decode cX10_takeRead 13 = .ok (.putfield 79, 3) := by decide +kernel
theorem dX10_takeRead_16 : decode cX10_takeRead 16 = .ok (.aload_n 0, 1) := by decide +kernel
theorem dX10_takeRead_17 : decode cX10_takeRead 17 = .ok (.aload_n 0, 1) := by decide +kernel
theorem dX10_takeRead_18 : decode cX10_takeRead 18 = .ok (.getfield 127, 3) := by decide +kernel
theorem dX10_takeRead_21 : decode cX10_takeRead 21 = .ok (.putfield 149, 3) := by decide +kernel
theorem dX10_takeRead_24 : decode cX10_takeRead 24 = .ok (.aload_n 0, 1) := by decide +kernel
theorem dX10_takeRead_25 : decode cX10_takeRead 25 = .ok (.getfield 32, 3) := by decide +kernel
theorem dX10_takeRead_28 : decode cX10_takeRead 28 = .ok (.aload_n 0, 1) := by decide +kernel
theorem dX10_takeRead_29 : decode cX10_takeRead 29 = .ok (.getfield 7, 3) := by decide +kernel
theorem dX10_takeRead_32 : decode cX10_takeRead 32 = .ok (.aload_n 0, 1) := by decide +kernel
theorem dX10_takeRead_33 : decode cX10_takeRead 33 = .ok (.getfield 72, 3) := by decide +kernel
theorem dX10_takeRead_36 : decode cX10_takeRead 36 = .ok (.invokestatic 152, 3) := by decide +kernel
theorem dX10_takeRead_39 : decode cX10_takeRead 39 = .ok (.aload_n 0, 1) := by decide +kernel
theorem dX10_takeRead_40 : decode cX10_takeRead 40 = .ok (.getfield 35, 3) := by decide +kernel
theorem dX10_takeRead_43 : decode cX10_takeRead 43 = .ok (.aload_n 0, 1) := by decide +kernel
theorem dX10_takeRead_44 : decode cX10_takeRead 44 = .ok (.getfield 13, 3) := by decide +kernel
theorem dX10_takeRead_47 : decode cX10_takeRead 47 = .ok (.aload_n 0, 1) := by decide +kernel
theorem dX10_takeRead_48 : decode cX10_takeRead 48 = .ok (.getfield 79, 3) := by decide +kernel
theorem dX10_takeRead_51 : decode cX10_takeRead 51 = .ok (.invokestatic 152, 3) := by decide +kernel
theorem dX10_takeRead_54 : decode cX10_takeRead 54 = .ok (.aload_n 0, 1) := by decide +kernel
theorem dX10_takeRead_55 : decode cX10_takeRead 55 = .ok (.getfield 38, 3) := by decide +kernel
theorem dX10_takeRead_58 : decode cX10_takeRead 58 = .ok (.aload_n 0, 1) := by decide +kernel
theorem dX10_takeRead_59 : decode cX10_takeRead 59 = .ok (.getfield 16, 3) := by decide +kernel
theorem dX10_takeRead_62 : decode cX10_takeRead 62 = .ok (.aload_n 0, 1) := by decide +kernel
theorem dX10_takeRead_63 : decode cX10_takeRead 63 = .ok (.getfield 79, 3) := by decide +kernel
theorem dX10_takeRead_66 : decode cX10_takeRead 66 = .ok (.invokestatic 152, 3) := by decide +kernel
theorem dX10_takeRead_69 : decode cX10_takeRead 69 = .ok (.aload_n 0, 1) := by decide +kernel
theorem dX10_takeRead_70 : decode cX10_takeRead 70 = .ok (.getfield 41, 3) := by decide +kernel
theorem dX10_takeRead_73 : decode cX10_takeRead 73 = .ok (.aload_n 0, 1) := by decide +kernel
theorem dX10_takeRead_74 : decode cX10_takeRead 74 = .ok (.getfield 19, 3) := by decide +kernel
theorem dX10_takeRead_77 : decode cX10_takeRead 77 = .ok (.aload_n 0, 1) := by decide +kernel
theorem dX10_takeRead_78 : decode cX10_takeRead 78 = .ok (.getfield 79, 3) := by decide +kernel
theorem dX10_takeRead_81 : decode cX10_takeRead 81 = .ok (.invokestatic 152, 3) := by decide +kernel
theorem dX10_takeRead_84 : decode cX10_takeRead 84 = .ok (.aload_n 0, 1) := by decide +kernel
theorem dX10_takeRead_85 : decode cX10_takeRead 85 = .ok (.aload_n 0, 1) := by decide +kernel
theorem dX10_takeRead_86 : decode cX10_takeRead 86 = .ok (.getfield 72, 3) := by decide +kernel
theorem dX10_takeRead_89 : decode cX10_takeRead 89 = .ok (.ifCond .ne 7, 3) := by decide +kernel
theorem dX10_takeRead_92 : decode cX10_takeRead 92 = .ok (.iconst 0, 1) := by decide +kernel
theorem dX10_takeRead_93 : decode cX10_takeRead 93 = .ok (.goto 33, 3) := by decide +kernel
theorem dX10_takeRead_96 : decode cX10_takeRead 96 = .ok (.aload_n 0, 1) := by decide +kernel
theorem dX10_takeRead_97 : decode cX10_takeRead 97 = .ok (.getfield 130, 3) := by decide +kernel
theorem dX10_takeRead_100 : decode cX10_takeRead 100 = .ok (.ifCond .le 10, 3) := by decide +kernel
theorem dX10_takeRead_103 : decode cX10_takeRead 103 = .ok (.aload_n 0, 1) := by decide +kernel
theorem dX10_takeRead_104 : decode cX10_takeRead 104 = .ok (.getfield 130, 3) := by decide +kernel
theorem dX10_takeRead_107 : decode cX10_takeRead 107 = .ok (.goto 19, 3) := by decide +kernel
theorem dX10_takeRead_110 : decode cX10_takeRead 110 = .ok (.aload_n 0, 1) := by decide +kernel
theorem dX10_takeRead_111 : decode cX10_takeRead 111 = .ok (.iconst 1, 1) := by decide +kernel
theorem dX10_takeRead_112 : decode cX10_takeRead 112 = .ok (.aload_n 0, 1) := by decide +kernel
theorem dX10_takeRead_113 : decode cX10_takeRead 113 = .ok (.getfield 72, 3) := by decide +kernel
theorem dX10_takeRead_116 : decode cX10_takeRead 116 = .ok (.ishl, 1) := by decide +kernel
theorem dX10_takeRead_117 : decode cX10_takeRead 117 = .ok (.iconst 1, 1) := by decide +kernel
theorem dX10_takeRead_118 : decode cX10_takeRead 118 = .ok (.isub, 1) := by decide +kernel
theorem dX10_takeRead_119 : decode cX10_takeRead 119 = .ok (.invokevirtual 156, 3) := by decide +kernel
theorem dX10_takeRead_122 : decode cX10_takeRead 122 = .ok (.iconst 2, 1) := by decide +kernel
theorem dX10_takeRead_123 : decode cX10_takeRead 123 = .ok (.idiv, 1) := by decide +kernel
theorem dX10_takeRead_124 : decode cX10_takeRead 124 = .ok (.iconst 1, 1) := by decide +kernel
theorem dX10_takeRead_125 : decode cX10_takeRead 125 = .ok (.iadd, 1) := by decide +kernel
theorem dX10_takeRead_126 : decode cX10_takeRead 126 = .ok (.putfield 160, 3) := by decide +kernel
theorem dX10_takeRead_129 : decode cX10_takeRead 129 = .ok (.iconst 0, 1) := by decide +kernel
theorem dX10_takeRead_130 : decode cX10_takeRead 130 = .ok (.istore_n 1, 1) := by decide +kernel
theorem dX10_takeRead_131 : decode cX10_takeRead 131 = .ok (.iload_n 1, 1) := by decide +kernel
theorem dX10_takeRead_132 : decode cX10_takeRead 132 = .ok (.bipush 36, 2) := by decide +kernel
theorem dX10_takeRead_134 : decode cX10_takeRead 134 = .ok (.if_icmp .ge 16, 3) := by decide +kernel
theorem dX10_takeRead_137 : decode cX10_takeRead 137 = .ok (.aload_n 0, 1) := by decide +kernel
theorem dX10_takeRead_138 : decode cX10_takeRead 138 = .ok (.getfield 22, 3) := by decide +kernel
theorem dX10_takeRead_141 : decode cX10_takeRead 141 = .ok (.iload_n 1, 1) := by decide +kernel
theorem dX10_takeRead_142 : decode cX10_takeRead 142 = .ok (.iconst 0, 1) := by decide +kernel
theorem dX10_takeRead_143 : decode cX10_takeRead 143 = .ok (.iastore, 1) := by decide +kernel
theorem dX10_takeRead_144 : decode cX10_takeRead 144 = .ok (.iinc 1 1, 3) := by decide +kernel
theorem dX10_takeRead_147 : decode cX10_takeRead 147 = .ok (.goto (-16), 3) := by decide +kernel
theorem dX10_takeRead_150 : decode cX10_takeRead 150 = .ok (.iconst 0, 1) := by decide +kernel
theorem dX10_takeRead_151 : decode cX10_takeRead 151 = .ok (.istore_n 1, 1) := by decide +kernel
theorem dX10_takeRead_152 : decode cX10_takeRead 152 = .ok (.iload_n 1, 1) := by decide +kernel
theorem dX10_takeRead_153 : decode cX10_takeRead 153 = .ok (.aload_n 0, 1) := by decide +kernel
theorem dX10_takeRead_154 : decode cX10_takeRead 154 = .ok (.getfield 79, 3) := by decide +kernel
theorem dX10_takeRead_157 : decode cX10_takeRead 157 = .ok (.if_icmp .ge 36, 3) := by decide +kernel
theorem dX10_takeRead_160 : decode cX10_takeRead 160 = .ok (.aload_n 0, 1) := by decide +kernel
theorem dX10_takeRead_161 : decode cX10_takeRead 161 = .ok (.getfield 22, 3) := by decide +kernel
theorem dX10_takeRead_164 : decode cX10_takeRead 164 = .ok (.iload_n 1, 1) := by decide +kernel
theorem dX10_takeRead_165 : decode cX10_takeRead 165 = .ok (.aload_n 0, 1) := by decide +kernel
theorem dX10_takeRead_166 : decode cX10_takeRead 166 = .ok (.getfield 16, 3) := by decide +kernel
theorem dX10_takeRead_169 : decode cX10_takeRead 169 = .ok (.iload_n 1, 1) := by decide +kernel
theorem dX10_takeRead_170 : decode cX10_takeRead 170 = .ok (.iaload, 1) := by decide +kernel
theorem dX10_takeRead_171 : decode cX10_takeRead 171 = .ok (.iastore, 1) := by decide +kernel
theorem dX10_takeRead_172 : decode cX10_takeRead 172 = .ok (.aload_n 0, 1) := by decide +kernel
theorem dX10_takeRead_173 : decode cX10_takeRead 173 = .ok (.getfield 22, 3) := by decide +kernel
theorem dX10_takeRead_176 : decode cX10_takeRead 176 = .ok (.bipush 17, 2) := by decide +kernel
theorem dX10_takeRead_178 : decode cX10_takeRead 178 = .ok (.iload_n 1, 1) := by decide +kernel
theorem dX10_takeRead_179 : decode cX10_takeRead 179 = .ok (.iadd, 1) := by decide +kernel
theorem dX10_takeRead_180 : decode cX10_takeRead 180 = .ok (.aload_n 0, 1) := by decide +kernel
theorem dX10_takeRead_181 : decode cX10_takeRead 181 = .ok (.getfield 19, 3) := by decide +kernel
theorem dX10_takeRead_184 : decode cX10_takeRead 184 = .ok (.iload_n 1, 1) := by decide +kernel
theorem dX10_takeRead_185 : decode cX10_takeRead 185 = .ok (.iaload, 1) := by decide +kernel
theorem dX10_takeRead_186 : decode cX10_takeRead 186 = .ok (.iastore, 1) := by decide +kernel
theorem dX10_takeRead_187 : decode cX10_takeRead 187 = .ok (.iinc 1 1, 3) := by decide +kernel
theorem dX10_takeRead_190 : decode cX10_takeRead 190 = .ok (.goto (-38), 3) := by decide +kernel
theorem dX10_takeRead_193 : decode cX10_takeRead 193 = .ok (.aload_n 0, 1) := by decide +kernel
theorem dX10_takeRead_194 : decode cX10_takeRead 194 = .ok (.getfield 22, 3) := by decide +kernel
theorem dX10_takeRead_197 : decode cX10_takeRead 197 = .ok (.bipush 8, 2) := by decide +kernel
theorem dX10_takeRead_199 : decode cX10_takeRead 199 = .ok (.iconst 1, 1) := by decide +kernel
theorem dX10_takeRead_200 : decode cX10_takeRead 200 = .ok (.aload_n 0, 1) := by decide +kernel
theorem dX10_takeRead_201 : decode cX10_takeRead 201 = .ok (.getfield 79, 3) := by decide +kernel
theorem dX10_takeRead_204 : decode cX10_takeRead 204 = .ok (.ishl, 1) := by decide +kernel
theorem dX10_takeRead_205 : decode cX10_takeRead 205 = .ok (.iconst 1, 1) := by decide +kernel
theorem dX10_takeRead_206 : decode cX10_takeRead 206 = .ok (.isub, 1) := by decide +kernel
theorem dX10_takeRead_207 : decode cX10_takeRead 207 = .ok (.iastore, 1) := by decide +kernel
theorem dX10_takeRead_208 : decode cX10_takeRead 208 = .ok (.return_, 1) := by decide +kernel
theorem dX10_congress_0 : decode cX10_congress 0 = .ok (.aload_n 0, 1) := by decide +kernel
theorem dX10_congress_1 : decode cX10_congress 1 = .ok (.iconst (-1), 1) := by decide +kernel
theorem dX10_congress_2 : decode cX10_congress 2 = .ok (.putfield 28, 3) := by decide +kernel
theorem dX10_congress_5 : decode cX10_congress 5 = .ok (.aload_n 0, 1) := by decide +kernel
theorem dX10_congress_6 : decode cX10_congress 6 = .ok (.iconst 0, 1) := by decide +kernel
theorem dX10_congress_7 : decode cX10_congress 7 = .ok (.putfield 89, 3) := by decide +kernel
theorem dX10_congress_10 : decode cX10_congress 10 = .ok (.aload_n 0, 1) := by decide +kernel
theorem dX10_congress_11 : decode cX10_congress 11 = .ok (.iconst 0, 1) := by decide +kernel
theorem dX10_congress_12 : decode cX10_congress 12 = .ok (.putfield 117, 3) := by decide +kernel
theorem dX10_congress_15 : decode cX10_congress 15 = .ok (.aload_n 0, 1) := by decide +kernel
theorem dX10_congress_16 : decode cX10_congress 16 = .ok (.iconst 0, 1) := by decide +kernel
theorem dX10_congress_17 : decode cX10_congress 17 = .ok (.putfield 120, 3) := by decide +kernel
theorem dX10_congress_20 : decode cX10_congress 20 = .ok (.aload_n 0, 1) := by decide +kernel
theorem dX10_congress_21 : decode cX10_congress 21 = .ok (.iconst 0, 1) := by decide +kernel
theorem dX10_congress_22 : decode cX10_congress 22 = .ok (.putfield 123, 3) := by decide +kernel
theorem dX10_congress_25 : decode cX10_congress 25 = .ok (.aload_n 0, 1) := by decide +kernel
theorem dX10_congress_26 : decode cX10_congress 26 = .ok (.iconst 0, 1) := by decide +kernel
theorem dX10_congress_27 : decode cX10_congress 27 = .ok (.putfield 127, 3) := by decide +kernel
theorem dX10_congress_30 : decode cX10_congress 30 = .ok (.aload_n 0, 1) := by decide +kernel
theorem dX10_congress_31 : decode cX10_congress 31 = .ok (.iconst 0, 1) := by decide +kernel
theorem dX10_congress_32 : decode cX10_congress 32 = .ok (.putfield 130, 3) := by decide +kernel
theorem dX10_congress_35 : decode cX10_congress 35 = .ok (.iconst 0, 1) := by decide +kernel
theorem dX10_congress_36 : decode cX10_congress 36 = .ok (.istore_n 1, 1) := by decide +kernel
theorem dX10_congress_37 : decode cX10_congress 37 = .ok (.iload_n 1, 1) := by decide +kernel
theorem dX10_congress_38 : decode cX10_congress 38 = .ok (.ifCond .ne 18, 3) := by decide +kernel
theorem dX10_congress_41 : decode cX10_congress 41 = .ok (.aload_n 0, 1) := by decide +kernel
theorem dX10_congress_42 : decode cX10_congress 42 = .ok (.invokevirtual 92, 3) := by decide +kernel
theorem dX10_congress_45 : decode cX10_congress 45 = .ok (.ifCond .lt 11, 3) := by decide +kernel
theorem dX10_congress_48 : decode cX10_congress 48 = .ok (.aload_n 0, 1) := by decide +kernel
theorem dX10_congress_49 : decode cX10_congress 49 = .ok (.invokevirtual 163, 3) := by decide +kernel
theorem dX10_congress_52 : decode cX10_congress 52 = .ok (.istore_n 1, 1) := by decide +kernel
theorem dX10_congress_53 : decode cX10_congress 53 = .ok (.goto (-16), 3) := by decide +kernel
theorem dX10_congress_56 : decode cX10_congress 56 = .ok (.aload_n 0, 1) := by decide +kernel
theorem dX10_congress_57 : decode cX10_congress 57 = .ok (.iconst 0, 1) := by decide +kernel
theorem dX10_congress_58 : decode cX10_congress 58 = .ok (.putfield 85, 3) := by decide +kernel
theorem dX10_congress_61 : decode cX10_congress 61 = .ok (.iload_n 1, 1) := by decide +kernel
theorem dX10_congress_62 : decode cX10_congress 62 = .ok (.ifCond .le 8, 3) := by decide +kernel
theorem dX10_congress_65 : decode cX10_congress 65 = .ok (.bipush (-10), 2) := by decide +kernel
theorem dX10_congress_67 : decode cX10_congress 67 = .ok (.iload_n 1, 1) := by decide +kernel
theorem dX10_congress_68 : decode cX10_congress 68 = .ok (.isub, 1) := by decide +kernel
theorem dX10_congress_69 : decode cX10_congress 69 = .ok (.ireturn, 1) := by decide +kernel
theorem dX10_congress_70 : decode cX10_congress 70 = .ok (.aload_n 0, 1) := by decide +kernel
theorem dX10_congress_71 : decode cX10_congress 71 = .ok (.invokevirtual 166, 3) := by decide +kernel
theorem dX10_congress_74 : decode cX10_congress 74 = .ok (.aload_n 0, 1) := by decide +kernel
theorem dX10_congress_75 : decode cX10_congress 75 = .ok (.iconst 0, 1) := by decide +kernel
theorem dX10_congress_76 : decode cX10_congress 76 = .ok (.putfield 169, 3) := by decide +kernel
theorem dX10_congress_79 : decode cX10_congress 79 = .ok (.aload_n 0, 1) := by decide +kernel
theorem dX10_congress_80 : decode cX10_congress 80 = .ok (.iconst 0, 1) := by decide +kernel
theorem dX10_congress_81 : decode cX10_congress 81 = .ok (.putfield 172, 3) := by decide +kernel
theorem dX10_congress_84 : decode cX10_congress 84 = .ok (.aload_n 0, 1) := by decide +kernel
theorem dX10_congress_85 : decode cX10_congress 85 = .ok (.getfield 69, 3) := by decide +kernel
theorem dX10_congress_88 : decode cX10_congress 88 = .ok (.iconst 0, 1) := by decide +kernel
theorem dX10_congress_89 : decode cX10_congress 89 = .ok (.iconst 0, 1) := by decide +kernel
theorem dX10_congress_90 : decode cX10_congress 90 = .ok (.bastore, 1) := by decide +kernel
theorem dX10_congress_91 : decode cX10_congress 91 = .ok (.aload_n 0, 1) := by decide +kernel
theorem dX10_congress_92 : decode cX10_congress 92 = .ok (.getfield 69, 3) := by decide +kernel
theorem dX10_congress_95 : decode cX10_congress 95 = .ok (.iconst 1, 1) := by decide +kernel
theorem dX10_congress_96 : decode cX10_congress 96 = .ok (.iconst 0, 1) := by decide +kernel
theorem dX10_congress_97 : decode cX10_congress 97 = .ok (.bastore, 1) := by decide +kernel
theorem dX10_congress_98 : decode cX10_congress 98 = .ok (.aload_n 0, 1) := by decide +kernel
theorem dX10_congress_99 : decode cX10_congress 99 = .ok (.getfield 79, 3) := by decide +kernel
theorem dX10_congress_102 : decode cX10_congress 102 = .ok (.ireturn, 1) := by decide +kernel
theorem dX10_fault_0 : decode cX10_fault 0 = .ok (.aload_n 0, 1) := by decide +kernel
theorem dX10_fault_1 : decode cX10_fault 1 = .ok (.getfield 28, 3) := by decide +kernel
theorem dX10_fault_4 : decode cX10_fault 4 = .ok (.ireturn, 1) := by decide +kernel
theorem dX10_votesOf_0 : decode cX10_votesOf 0 = .ok (.iconst 0, 1) := by decide +kernel
theorem dX10_votesOf_1 : decode cX10_votesOf 1 = .ok (.istore_n 2, 1) := by decide +kernel
theorem dX10_votesOf_2 : decode cX10_votesOf 2 = .ok (.iconst 0, 1) := by decide +kernel
theorem dX10_votesOf_3 : decode cX10_votesOf 3 = .ok (.istore_n 3, 1) := by decide +kernel
theorem dX10_votesOf_4 : decode cX10_votesOf 4 = .ok (.iload_n 3, 1) := by decide +kernel
theorem dX10_votesOf_5 : decode cX10_votesOf 5 = .ok (.aload_n 0, 1) := by decide +kernel
theorem dX10_votesOf_6 : decode cX10_votesOf 6 = .ok (.getfield 72, 3) := by decide +kernel
theorem dX10_votesOf_9 : decode cX10_votesOf 9 = .ok (.if_icmp .ge 30, 3) := by decide +kernel
theorem dX10_votesOf_12 : decode cX10_votesOf 12 = .ok (.iload_n 2, 1) := by decide +kernel
theorem dX10_votesOf_13 : decode cX10_votesOf 13 = .ok (.iload_n 1, 1) := by decide +kernel
theorem dX10_votesOf_14 : decode cX10_votesOf 14 = .ok (.iload_n 3, 1) := by decide +kernel
theorem dX10_votesOf_15 : decode cX10_votesOf 15 = .ok (.invokestatic 175, 3) := by decide +kernel
theorem dX10_votesOf_18 : decode cX10_votesOf 18 = .ok (.ifCond .eq 12, 3) := by decide +kernel
theorem dX10_votesOf_21 : decode cX10_votesOf 21 = .ok (.aload_n 0, 1) := by decide +kernel
theorem dX10_votesOf_22 : decode cX10_votesOf 22 = .ok (.getfield 7, 3) := by decide +kernel
theorem dX10_votesOf_25 : decode cX10_votesOf 25 = .ok (.iload_n 3, 1) := by decide +kernel
theorem dX10_votesOf_26 : decode cX10_votesOf 26 = .ok (.iaload, 1) := by decide +kernel
theorem dX10_votesOf_27 : decode cX10_votesOf 27 = .ok (.goto 4, 3) := by decide +kernel
theorem dX10_votesOf_30 : decode cX10_votesOf 30 = .ok (.iconst 0, 1) := by decide +kernel
theorem dX10_votesOf_31 : decode cX10_votesOf 31 = .ok (.iadd, 1) := by decide +kernel
theorem dX10_votesOf_32 : decode cX10_votesOf 32 = .ok (.istore_n 2, 1) := by decide +kernel
theorem dX10_votesOf_33 : decode cX10_votesOf 33 = .ok (.iinc 3 1, 3) := by decide +kernel
theorem dX10_votesOf_36 : decode cX10_votesOf 36 = .ok (.goto (-32), 3) := by decide +kernel
theorem dX10_votesOf_39 : decode cX10_votesOf 39 = .ok (.iload_n 2, 1) := by decide +kernel
theorem dX10_votesOf_40 : decode cX10_votesOf 40 = .ok (.ireturn, 1) := by decide +kernel
theorem dX10_hasQuota_0 : decode cX10_hasQuota 0 = .ok (.aload_n 0, 1) := by decide +kernel
theorem dX10_hasQuota_1 : decode cX10_hasQuota 1 = .ok (.iload_n 1, 1) := by decide +kernel
theorem dX10_hasQuota_2 : decode cX10_hasQuota 2 = .ok (.invokevirtual 156, 3) := by decide +kernel
theorem dX10_hasQuota_5 : decode cX10_hasQuota 5 = .ok (.aload_n 0, 1) := by decide +kernel
theorem dX10_hasQuota_6 : decode cX10_hasQuota 6 = .ok (.getfield 160, 3) := by decide +kernel
theorem dX10_hasQuota_9 : decode cX10_hasQuota 9 = .ok (.if_icmp .lt 7, 3) := by decide +kernel
theorem dX10_hasQuota_12 : decode cX10_hasQuota 12 = .ok (.iconst 1, 1) := by decide +kernel
theorem dX10_hasQuota_13 : decode cX10_hasQuota 13 = .ok (.goto 4, 3) := by decide +kernel
theorem dX10_hasQuota_16 : decode cX10_hasQuota 16 = .ok (.iconst 0, 1) := by decide +kernel
theorem dX10_hasQuota_17 : decode cX10_hasQuota 17 = .ok (.ireturn, 1) := by decide +kernel
theorem dX10_whoIsAt_0 : decode cX10_whoIsAt 0 = .ok (.iconst 0, 1) := by decide +kernel
theorem dX10_whoIsAt_1 : decode cX10_whoIsAt 1 = .ok (.istore_n 2, 1) := by decide +kernel
theorem dX10_whoIsAt_2 : decode cX10_whoIsAt 2 = .ok (.iconst 0, 1) := by decide +kernel
theorem dX10_whoIsAt_3 : decode cX10_whoIsAt 3 = .ok (.istore_n 3, 1) := by decide +kernel
theorem dX10_whoIsAt_4 : decode cX10_whoIsAt 4 = .ok (.iload_n 3, 1) := by decide +kernel
theorem dX10_whoIsAt_5 : decode cX10_whoIsAt 5 = .ok (.aload_n 0, 1) := by decide +kernel
theorem dX10_whoIsAt_6 : decode cX10_whoIsAt 6 = .ok (.getfield 79, 3) := by decide +kernel
theorem dX10_whoIsAt_9 : decode cX10_whoIsAt 9 = .ok (.if_icmp .ge 29, 3) := by decide +kernel
theorem dX10_whoIsAt_12 : decode cX10_whoIsAt 12 = .ok (.iload_n 2, 1) := by decide +kernel
theorem dX10_whoIsAt_13 : decode cX10_whoIsAt 13 = .ok (.aload_n 0, 1) := by decide +kernel
theorem dX10_whoIsAt_14 : decode cX10_whoIsAt 14 = .ok (.getfield 22, 3) := by decide +kernel
theorem dX10_whoIsAt_17 : decode cX10_whoIsAt 17 = .ok (.iload_n 3, 1) := by decide +kernel
theorem dX10_whoIsAt_18 : decode cX10_whoIsAt 18 = .ok (.iaload, 1) := by decide +kernel
theorem dX10_whoIsAt_19 : decode cX10_whoIsAt 19 = .ok (.iload_n 1, 1) := by decide +kernel
theorem dX10_whoIsAt_20 : decode cX10_whoIsAt 20 = .ok (.if_icmp .ne 9, 3) := by decide +kernel
theorem dX10_whoIsAt_23 : decode cX10_whoIsAt 23 = .ok (.iconst 1, 1) := by decide +kernel
theorem dX10_whoIsAt_24 : decode cX10_whoIsAt 24 = .ok (.iload_n 3, 1) := by decide +kernel
theorem dX10_whoIsAt_25 : decode cX10_whoIsAt 25 = .ok (.ishl, 1) := by decide +kernel
theorem dX10_whoIsAt_26 : decode cX10_whoIsAt 26 = .ok (.goto 4, 3) := by decide +kernel
theorem dX10_whoIsAt_29 : decode cX10_whoIsAt 29 = .ok (.iconst 0, 1) := by decide +kernel
theorem dX10_whoIsAt_30 : decode cX10_whoIsAt 30 = .ok (.ior, 1) := by decide +kernel
theorem dX10_whoIsAt_31 : decode cX10_whoIsAt 31 = .ok (.istore_n 2, 1) := by decide +kernel
theorem dX10_whoIsAt_32 : decode cX10_whoIsAt 32 = .ok (.iinc 3 1, 3) := by decide +kernel
theorem dX10_whoIsAt_35 : decode cX10_whoIsAt 35 = .ok (.goto (-31), 3) := by decide +kernel
theorem dX10_whoIsAt_38 : decode cX10_whoIsAt 38 = .ok (.iload_n 2, 1) := by decide +kernel
theorem dX10_whoIsAt_39 : decode cX10_whoIsAt 39 = .ok (.ireturn, 1) := by decide +kernel
theorem dX10_whoBelongsTo_0 : decode cX10_whoBelongsTo 0 = .ok (.iconst 0, 1) := by decide +kernel
theorem dX10_whoBelongsTo_1 : decode cX10_whoBelongsTo 1 = .ok (.istore_n 2, 1) := by decide +kernel
theorem dX10_whoBelongsTo_2 : decode cX10_whoBelongsTo 2 = .ok (.iconst 0, 1) := by decide +kernel
theorem dX10_whoBelongsTo_3 : decode cX10_whoBelongsTo 3 = .ok (.istore_n 3, 1) := by decide +kernel
theorem dX10_whoBelongsTo_4 : decode cX10_whoBelongsTo 4 = .ok (.iload_n 3, 1) := by decide +kernel
theorem dX10_whoBelongsTo_5 : decode cX10_whoBelongsTo 5 = .ok (.aload_n 0, 1) := by decide +kernel
theorem dX10_whoBelongsTo_6 : decode cX10_whoBelongsTo 6 = .ok (.getfield 79, 3) := by decide +kernel
theorem dX10_whoBelongsTo_9 : decode cX10_whoBelongsTo 9 = .ok (.if_icmp .ge 29, 3) := by decide +kernel
theorem dX10_whoBelongsTo_12 : decode cX10_whoBelongsTo 12 = .ok (.iload_n 2, 1) := by decide +kernel
theorem dX10_whoBelongsTo_13 : decode cX10_whoBelongsTo 13 = .ok (.aload_n 0, 1) := by decide +kernel
theorem dX10_whoBelongsTo_14 : decode cX10_whoBelongsTo 14 = .ok (.getfield 16, 3) := by decide +kernel
theorem dX10_whoBelongsTo_17 : decode cX10_whoBelongsTo 17 = .ok (.iload_n 3, 1) := by decide +kernel
theorem dX10_whoBelongsTo_18 : decode cX10_whoBelongsTo 18 = .ok (.iaload, 1) := by decide +kernel
theorem dX10_whoBelongsTo_19 : decode cX10_whoBelongsTo 19 = .ok (.iload_n 1, 1) := by decide +kernel
theorem dX10_whoBelongsTo_20 : decode cX10_whoBelongsTo 20 = .ok (.if_icmp .ne 9, 3) := by decide +kernel
theorem dX10_whoBelongsTo_23 : decode cX10_whoBelongsTo 23 = .ok (.iconst 1, 1) := by decide +kernel
theorem dX10_whoBelongsTo_24 : decode cX10_whoBelongsTo 24 = .ok (.iload_n 3, 1) := by decide +kernel
theorem dX10_whoBelongsTo_25 : decode cX10_whoBelongsTo 25 = .ok (.ishl, 1) := by decide +kernel
theorem dX10_whoBelongsTo_26 : decode cX10_whoBelongsTo 26 = .ok (.goto 4, 3) := by decide +kernel
theorem dX10_whoBelongsTo_29 : decode cX10_whoBelongsTo 29 = .ok (.iconst 0, 1) := by decide +kernel
theorem dX10_whoBelongsTo_30 : decode cX10_whoBelongsTo 30 = .ok (.ior, 1) := by decide +kernel
theorem dX10_whoBelongsTo_31 : decode cX10_whoBelongsTo 31 = .ok (.istore_n 2, 1) := by decide +kernel
theorem dX10_whoBelongsTo_32 : decode cX10_whoBelongsTo 32 = .ok (.iinc 3 1, 3) := by decide +kernel
theorem dX10_whoBelongsTo_35 : decode cX10_whoBelongsTo 35 = .ok (.goto (-31), 3) := by decide +kernel
theorem dX10_whoBelongsTo_38 : decode cX10_whoBelongsTo 38 = .ok (.iload_n 2, 1) := by decide +kernel
theorem dX10_whoBelongsTo_39 : decode cX10_whoBelongsTo 39 = .ok (.ireturn, 1) := by decide +kernel
theorem dX10_nods_0 : decode cX10_nods 0 = .ok (.aload_n 0, 1) := by decide +kernel
theorem dX10_nods_1 : decode cX10_nods 1 = .ok (.iload_n 1, 1) := by decide +kernel
theorem dX10_nods_2 : decode cX10_nods 2 = .ok (.invokevirtual 179, 3) := by decide +kernel
theorem dX10_nods_5 : decode cX10_nods 5 = .ok (.aload_n 0, 1) := by decide +kernel
theorem dX10_nods_6 : decode cX10_nods 6 = .ok (.getfield 22, 3) := by decide +kernel
theorem dX10_nods_9 : decode cX10_nods 9 = .ok (.bipush 8, 2) := by decide +kernel
theorem dX10_nods_11 : decode cX10_nods 11 = .ok (.iaload, 1) := by decide +kernel
theorem dX10_nods_12 : decode cX10_nods 12 = .ok (.iand, 1) := by decide +kernel
theorem dX10_nods_13 : decode cX10_nods 13 = .ok (.istore_n 2, 1) := by decide +kernel
theorem dX10_nods_14 : decode cX10_nods 14 = .ok (.iload_n 2, 1) := by decide +kernel
theorem dX10_nods_15 : decode cX10_nods 15 = .ok (.ifCond .eq 7, 3) := by decide +kernel
theorem dX10_nods_18 : decode cX10_nods 18 = .ok (.iconst 1, 1) := by decide +kernel
theorem dX10_nods_19 : decode cX10_nods 19 = .ok (.goto 4, 3) := by decide +kernel
theorem dX10_nods_22 : decode cX10_nods 22 = .ok (.iconst 0, 1) := by decide +kernel
theorem dX10_nods_23 : decode cX10_nods 23 = .ok (.istore_n 3, 1) := by decide +kernel
theorem dX10_nods_24 : decode cX10_nods 24 = .ok (.iconst 0, 1) := by decide +kernel
theorem dX10_nods_25 : decode cX10_nods 25 = .ok (.istore 4, 2) := by decide +kernel
theorem dX10_nods_27 : decode cX10_nods 27 = .ok (.iload 4, 2) := by decide +kernel
theorem dX10_nods_29 : decode cX10_nods 29 = .ok (.aload_n 0, 1) := by decide +kernel
theorem dX10_nods_30 : decode cX10_nods 30 = .ok (.getfield 79, 3) := by decide +kernel
theorem dX10_nods_33 : decode cX10_nods 33 = .ok (.if_icmp .ge 39, 3) := by decide +kernel
theorem dX10_nods_36 : decode cX10_nods 36 = .ok (.iload_n 3, 1) := by decide +kernel
theorem dX10_nods_37 : decode cX10_nods 37 = .ok (.ifCond .eq 27, 3) := by decide +kernel
theorem dX10_nods_40 : decode cX10_nods 40 = .ok (.iload_n 2, 1) := by decide +kernel
theorem dX10_nods_41 : decode cX10_nods 41 = .ok (.iload 4, 2) := by decide +kernel
theorem dX10_nods_43 : decode cX10_nods 43 = .ok (.invokestatic 175, 3) := by decide +kernel
theorem dX10_nods_46 : decode cX10_nods 46 = .ok (.ifCond .eq 14, 3) := by decide +kernel
theorem dX10_nods_49 : decode cX10_nods 49 = .ok (.aload_n 0, 1) := by decide +kernel
theorem dX10_nods_50 : decode cX10_nods 50 = .ok (.getfield 13, 3) := by decide +kernel
theorem dX10_nods_53 : decode cX10_nods 53 = .ok (.iload 4, 2) := by decide +kernel
theorem dX10_nods_55 : decode cX10_nods 55 = .ok (.iaload, 1) := by decide +kernel
theorem dX10_nods_56 : decode cX10_nods 56 = .ok (.iconst 1, 1) := by decide +kernel
theorem dX10_nods_57 : decode cX10_nods 57 = .ok (.if_icmp .eq 7, 3) := by decide +kernel
theorem dX10_nods_60 : decode cX10_nods 60 = .ok (.iconst 1, 1) := by decide +kernel
theorem dX10_nods_61 : decode cX10_nods 61 = .ok (.goto 4, 3) := by decide +kernel
theorem dX10_nods_64 : decode cX10_nods 64 = .ok (.iconst 0, 1) := by decide +kernel
theorem dX10_nods_65 : decode cX10_nods 65 = .ok (.istore_n 3, 1) := by decide +kernel
theorem dX10_nods_66 : decode cX10_nods 66 = .ok (.iinc 4 1, 3) := by decide +kernel
theorem dX10_nods_69 : decode cX10_nods 69 = .ok (.goto (-42), 3) := by decide +kernel
theorem dX10_nods_72 : decode cX10_nods 72 = .ok (.iload_n 3, 1) := by decide +kernel
theorem dX10_nods_73 : decode cX10_nods 73 = .ok (.ireturn, 1) := by decide +kernel
theorem dX10_noddingOnes_0 : decode cX10_noddingOnes 0 = .ok (.iconst 0, 1) := by decide +kernel
theorem dX10_noddingOnes_1 : decode cX10_noddingOnes 1 = .ok (.istore_n 1, 1) := by decide +kernel
theorem dX10_noddingOnes_2 : decode cX10_noddingOnes 2 = .ok (.iconst 0, 1) := by decide +kernel
theorem dX10_noddingOnes_3 : decode cX10_noddingOnes 3 = .ok (.istore_n 2, 1) := by decide +kernel
theorem dX10_noddingOnes_4 : decode cX10_noddingOnes 4 = .ok (.iload_n 2, 1) := by decide +kernel
theorem dX10_noddingOnes_5 : decode cX10_noddingOnes 5 = .ok (.aload_n 0, 1) := by decide +kernel
theorem dX10_noddingOnes_6 : decode cX10_noddingOnes 6 = .ok (.getfield 72, 3) := by decide +kernel
theorem dX10_noddingOnes_9 : decode cX10_noddingOnes 9 = .ok (.if_icmp .ge 27, 3) := by decide +kernel
theorem dX10_noddingOnes_12 : decode cX10_noddingOnes 12 = .ok (.iload_n 1, 1) := by decide +kernel
theorem dX10_noddingOnes_13 : decode cX10_noddingOnes 13 = .ok (.aload_n 0, 1) := by decide +kernel
theorem dX10_noddingOnes_14 : decode cX10_noddingOnes 14 = .ok (.iload_n 2, 1) := by decide +kernel
theorem dX10_noddingOnes_15 : decode cX10_noddingOnes 15 = .ok (.invokevirtual 182, 3) := by decide +kernel
theorem dX10_noddingOnes_18 : decode cX10_noddingOnes 18 = .ok (.ifCond .eq 9, 3) := by decide +kernel
theorem dX10_noddingOnes_21 : decode cX10_noddingOnes 21 = .ok (.iconst 1, 1) := by decide +kernel
theorem dX10_noddingOnes_22 : decode cX10_noddingOnes 22 = .ok (.iload_n 2, 1) := by decide +kernel
theorem dX10_noddingOnes_23 : decode cX10_noddingOnes 23 = .ok (.ishl, 1) := by decide +kernel
theorem dX10_noddingOnes_24 : decode cX10_noddingOnes 24 = .ok (.goto 4, 3) := by decide +kernel
theorem dX10_noddingOnes_27 : decode cX10_noddingOnes 27 = .ok (.iconst 0, 1) := by decide +kernel
theorem dX10_noddingOnes_28 : decode cX10_noddingOnes 28 = .ok (.ior, 1) := by decide +kernel
theorem dX10_noddingOnes_29 : decode cX10_noddingOnes 29 = .ok (.istore_n 1, 1) := by decide +kernel
theorem dX10_noddingOnes_30 : decode cX10_noddingOnes 30 = .ok (.iinc 2 1, 3) := by decide +kernel
theorem dX10_noddingOnes_33 : decode cX10_noddingOnes 33 = .ok (.goto (-29), 3) := by decide +kernel
theorem dX10_noddingOnes_36 : decode cX10_noddingOnes 36 = .ok (.iload_n 1, 1) := by decide +kernel
theorem dX10_noddingOnes_37 : decode cX10_noddingOnes 37 = .ok (.ireturn, 1) := by decide +kernel
theorem dX10_factorial_0 : decode cX10_factorial 0 = .ok (.iconst 1, 1) := by decide +kernel
theorem dX10_factorial_1 : decode cX10_factorial 1 = .ok (.istore_n 1, 1) := by decide +kernel
theorem dX10_factorial_2 : decode cX10_factorial 2 = .ok (.iconst 2, 1) := by decide +kernel
theorem dX10_factorial_3 : decode cX10_factorial 3 = .ok (.istore_n 2, 1) := by decide +kernel
theorem dX10_factorial_4 : decode cX10_factorial 4 = .ok (.iload_n 2, 1) := by decide +kernel
theorem dX10_factorial_5 : decode cX10_factorial 5 = .ok (.iload_n 0, 1) := by decide +kernel
theorem dX10_factorial_6 : decode cX10_factorial 6 = .ok (.if_icmp .gt 13, 3) := by decide +kernel
theorem dX10_factorial_9 : decode cX10_factorial 9 = .ok (.iload_n 1, 1) := by decide +kernel
theorem dX10_factorial_10 : decode cX10_factorial 10 = .ok (.iload_n 2, 1) := by decide +kernel
theorem dX10_factorial_11 : decode cX10_factorial 11 = .ok (.imul, 1) := by decide +kernel
theorem dX10_factorial_12 : decode cX10_factorial 12 = .ok (.istore_n 1, 1) := by decide +kernel
theorem dX10_factorial_13 : decode cX10_factorial 13 = .ok (.iinc 2 1, 3) := by decide +kernel
theorem dX10_factorial_16 : decode cX10_factorial 16 = .ok (.goto (-12), 3) := by decide +kernel
theorem dX10_factorial_19 : decode cX10_factorial 19 = .ok (.iload_n 1, 1) := by decide +kernel
theorem dX10_factorial_20 : decode cX10_factorial 20 = .ok (.ireturn, 1) := by decide +kernel
theorem dX10_power_0 : decode cX10_power 0 = .ok (.iconst 0, 1) := by decide +kernel
theorem dX10_power_1 : decode cX10_power 1 = .ok (.istore_n 2, 1) := by decide +kernel
theorem dX10_power_2 : decode cX10_power 2 = .ok (.iconst 0, 1) := by decide +kernel
theorem dX10_power_3 : decode cX10_power 3 = .ok (.istore_n 3, 1) := by decide +kernel
theorem dX10_power_4 : decode cX10_power 4 = .ok (.iload_n 3, 1) := by decide +kernel
theorem dX10_power_5 : decode cX10_power 5 = .ok (.iconst 1, 1) := by decide +kernel
theorem dX10_power_6 : decode cX10_power 6 = .ok (.aload_n 0, 1) := by decide +kernel
theorem dX10_power_7 : decode cX10_power 7 = .ok (.getfield 72, 3) := by decide +kernel
theorem dX10_power_10 : decode cX10_power 10 = .ok (.ishl, 1) := by decide +kernel
theorem dX10_power_11 : decode cX10_power 11 = .ok (.if_icmp .ge 78, 3) := by decide +kernel
theorem dX10_power_14 : decode cX10_power 14 = .ok (.iload_n 3, 1) := by decide +kernel
theorem dX10_power_15 : decode cX10_power 15 = .ok (.iload_n 1, 1) := by decide +kernel
theorem dX10_power_16 : decode cX10_power 16 = .ok (.invokestatic 175, 3) := by decide +kernel
theorem dX10_power_19 : decode cX10_power 19 = .ok (.ifCond .ne 27, 3) := by decide +kernel
theorem dX10_power_22 : decode cX10_power 22 = .ok (.aload_n 0, 1) := by decide +kernel
theorem dX10_power_23 : decode cX10_power 23 = .ok (.iload_n 3, 1) := by decide +kernel
theorem dX10_power_24 : decode cX10_power 24 = .ok (.invokevirtual 185, 3) := by decide +kernel
theorem dX10_power_27 : decode cX10_power 27 = .ok (.ifCond .ne 19, 3) := by decide +kernel
theorem dX10_power_30 : decode cX10_power 30 = .ok (.aload_n 0, 1) := by decide +kernel
theorem dX10_power_31 : decode cX10_power 31 = .ok (.iload_n 3, 1) := by decide +kernel
theorem dX10_power_32 : decode cX10_power 32 = .ok (.iconst 1, 1) := by decide +kernel
theorem dX10_power_33 : decode cX10_power 33 = .ok (.iload_n 1, 1) := by decide +kernel
theorem dX10_power_34 : decode cX10_power 34 = .ok (.ishl, 1) := by decide +kernel
theorem dX10_power_35 : decode cX10_power 35 = .ok (.ior, 1) := by decide +kernel
theorem dX10_power_36 : decode cX10_power 36 = .ok (.invokevirtual 185, 3) := by decide +kernel
theorem dX10_power_39 : decode cX10_power 39 = .ok (.ifCond .eq 7, 3) := by decide +kernel
theorem dX10_power_42 : decode cX10_power 42 = .ok (.iconst 1, 1) := by decide +kernel
theorem dX10_power_43 : decode cX10_power 43 = .ok (.goto 4, 3) := by decide +kernel
theorem dX10_power_46 : decode cX10_power 46 = .ok (.iconst 0, 1) := by decide +kernel
theorem dX10_power_47 : decode cX10_power 47 = .ok (.istore 4, 2) := by decide +kernel
theorem dX10_power_49 : decode cX10_power 49 = .ok (.iload_n 2, 1) := by decide +kernel
theorem dX10_power_50 : decode cX10_power 50 = .ok (.iload 4, 2) := by decide +kernel
theorem dX10_power_52 : decode cX10_power 52 = .ok (.ifCond .eq 28, 3) := by decide +kernel
theorem dX10_power_55 : decode cX10_power 55 = .ok (.iload_n 3, 1) := by decide +kernel
theorem dX10_power_56 : decode cX10_power 56 = .ok (.invokestatic 188, 3) := by decide +kernel
theorem dX10_power_59 : decode cX10_power 59 = .ok (.invokestatic 191, 3) := by decide +kernel
theorem dX10_power_62 : decode cX10_power 62 = .ok (.aload_n 0, 1) := by decide +kernel
theorem dX10_power_63 : decode cX10_power 63 = .ok (.getfield 72, 3) := by decide +kernel
theorem dX10_power_66 : decode cX10_power 66 = .ok (.iload_n 3, 1) := by decide +kernel
theorem dX10_power_67 : decode cX10_power 67 = .ok (.invokestatic 188, 3) := by decide +kernel
theorem dX10_power_70 : decode cX10_power 70 = .ok (.isub, 1) := by decide +kernel
theorem dX10_power_71 : decode cX10_power 71 = .ok (.iconst 1, 1) := by decide +kernel
theorem dX10_power_72 : decode cX10_power 72 = .ok (.isub, 1) := by decide +kernel
theorem dX10_power_73 : decode cX10_power 73 = .ok (.invokestatic 191, 3) := by decide +kernel
theorem dX10_power_76 : decode cX10_power 76 = .ok (.imul, 1) := by decide +kernel
theorem dX10_power_77 : decode cX10_power 77 = .ok (.goto 4, 3) := by decide +kernel
theorem dX10_power_80 : decode cX10_power 80 = .ok (.iconst 0, 1) := by decide +kernel
theorem dX10_power_81 : decode cX10_power 81 = .ok (.iadd, 1) := by decide +kernel
theorem dX10_power_82 : decode cX10_power 82 = .ok (.istore_n 2, 1) := by decide +kernel
theorem dX10_power_83 : decode cX10_power 83 = .ok (.iinc 3 1, 3) := by decide +kernel
theorem dX10_power_86 : decode cX10_power 86 = .ok (.goto (-82), 3) := by decide +kernel
theorem dX10_power_89 : decode cX10_power 89 = .ok (.iload_n 2, 1) := by decide +kernel
theorem dX10_power_90 : decode cX10_power 90 = .ok (.ireturn, 1) := by decide +kernel
theorem dX10_blocks_0 : decode cX10_blocks 0 = .ok (.iconst (-1), 1) := by decide +kernel
theorem dX10_blocks_1 : decode cX10_blocks 1 = .ok (.istore_n 1, 1) := by decide +kernel
theorem dX10_blocks_2 : decode cX10_blocks 2 = .ok (.iconst 1, 1) := by decide +kernel
theorem dX10_blocks_3 : decode cX10_blocks 3 = .ok (.aload_n 0, 1) := by decide +kernel
theorem dX10_blocks_4 : decode cX10_blocks 4 = .ok (.getfield 72, 3) := by decide +kernel
theorem dX10_blocks_7 : decode cX10_blocks 7 = .ok (.ishl, 1) := by decide +kernel
theorem dX10_blocks_8 : decode cX10_blocks 8 = .ok (.iconst 1, 1) := by decide +kernel
theorem dX10_blocks_9 : decode cX10_blocks 9 = .ok (.isub, 1) := by decide +kernel
theorem dX10_blocks_10 : decode cX10_blocks 10 = .ok (.istore_n 2, 1) := by decide +kernel
theorem dX10_blocks_11 : decode cX10_blocks 11 = .ok (.iconst 0, 1) := by decide +kernel
theorem dX10_blocks_12 : decode cX10_blocks 12 = .ok (.istore_n 3, 1) := by decide +kernel
theorem dX10_blocks_13 : decode cX10_blocks 13 = .ok (.iload_n 3, 1) := by decide +kernel
theorem dX10_blocks_14 : decode cX10_blocks 14 = .ok (.iload_n 2, 1) := by decide +kernel
theorem dX10_blocks_15 : decode cX10_blocks 15 = .ok (.if_icmp .gt 54, 3) := by decide +kernel
theorem dX10_blocks_18 : decode cX10_blocks 18 = .ok (.iload_n 1, 1) := by decide +kernel
theorem dX10_blocks_19 : decode cX10_blocks 19 = .ok (.ifCond .lt 14, 3) := by decide +kernel
theorem dX10_blocks_22 : decode cX10_blocks 22 = .ok (.iload_n 3, 1) := by decide +kernel
theorem dX10_blocks_23 : decode cX10_blocks 23 = .ok (.invokestatic 188, 3) := by decide +kernel
theorem dX10_blocks_26 : decode cX10_blocks 26 = .ok (.iload_n 1, 1) := by decide +kernel
theorem dX10_blocks_27 : decode cX10_blocks 27 = .ok (.invokestatic 188, 3) := by decide +kernel
theorem dX10_blocks_30 : decode cX10_blocks 30 = .ok (.if_icmp .ge 7, 3) := by decide +kernel
theorem dX10_blocks_33 : decode cX10_blocks 33 = .ok (.iconst 1, 1) := by decide +kernel
theorem dX10_blocks_34 : decode cX10_blocks 34 = .ok (.goto 4, 3) := by decide +kernel
theorem dX10_blocks_37 : decode cX10_blocks 37 = .ok (.iconst 0, 1) := by decide +kernel
theorem dX10_blocks_38 : decode cX10_blocks 38 = .ok (.istore 4, 2) := by decide +kernel
theorem dX10_blocks_40 : decode cX10_blocks 40 = .ok (.iload 4, 2) := by decide +kernel
theorem dX10_blocks_42 : decode cX10_blocks 42 = .ok (.ifCond .eq 19, 3) := by decide +kernel
theorem dX10_blocks_45 : decode cX10_blocks 45 = .ok (.aload_n 0, 1) := by decide +kernel
theorem dX10_blocks_46 : decode cX10_blocks 46 = .ok (.iload_n 2, 1) := by decide +kernel
theorem dX10_blocks_47 : decode cX10_blocks 47 = .ok (.iload_n 3, 1) := by decide +kernel
theorem dX10_blocks_48 : decode cX10_blocks 48 = .ok (.iconst (-1), 1) := by decide +kernel
theorem dX10_blocks_49 : decode cX10_blocks 49 = .ok (.ixor, 1) := by decide +kernel
theorem dX10_blocks_50 : decode cX10_blocks 50 = .ok (.iand, 1) := by decide +kernel
theorem dX10_blocks_51 : decode cX10_blocks 51 = .ok (.invokevirtual 185, 3) := by decide +kernel
theorem dX10_blocks_54 : decode cX10_blocks 54 = .ok (.ifCond .ne 7, 3) := by decide +kernel
theorem dX10_blocks_57 : decode cX10_blocks 57 = .ok (.iload_n 3, 1) := by decide +kernel
theorem dX10_blocks_58 : decode cX10_blocks 58 = .ok (.goto 4, 3) := by decide +kernel
theorem dX10_blocks_61 : decode cX10_blocks 61 = .ok (.iload_n 1, 1) := by decide +kernel
theorem dX10_blocks_62 : decode cX10_blocks 62 = .ok (.istore_n 1, 1) := by decide +kernel
theorem dX10_blocks_63 : decode cX10_blocks 63 = .ok (.iinc 3 1, 3) := by decide +kernel
theorem dX10_blocks_66 : decode cX10_blocks 66 = .ok (.goto (-53), 3) := by decide +kernel
theorem dX10_blocks_69 : decode cX10_blocks 69 = .ok (.iload_n 1, 1) := by decide +kernel
theorem dX10_blocks_70 : decode cX10_blocks 70 = .ok (.ireturn, 1) := by decide +kernel
theorem dX10_fewest_0 : decode cX10_fewest 0 = .ok (.iconst (-1), 1) := by decide +kernel
theorem dX10_fewest_1 : decode cX10_fewest 1 = .ok (.istore_n 1, 1) := by decide +kernel
theorem dX10_fewest_2 : decode cX10_fewest 2 = .ok (.iconst 0, 1) := by decide +kernel
theorem dX10_fewest_3 : decode cX10_fewest 3 = .ok (.istore_n 2, 1) := by decide +kernel
theorem dX10_fewest_4 : decode cX10_fewest 4 = .ok (.iload_n 2, 1) := by decide +kernel
theorem dX10_fewest_5 : decode cX10_fewest 5 = .ok (.iconst 1, 1) := by decide +kernel
theorem dX10_fewest_6 : decode cX10_fewest 6 = .ok (.aload_n 0, 1) := by decide +kernel
theorem dX10_fewest_7 : decode cX10_fewest 7 = .ok (.getfield 72, 3) := by decide +kernel
theorem dX10_fewest_10 : decode cX10_fewest 10 = .ok (.ishl, 1) := by decide +kernel
theorem dX10_fewest_11 : decode cX10_fewest 11 = .ok (.if_icmp .ge 55, 3) := by decide +kernel
theorem dX10_fewest_14 : decode cX10_fewest 14 = .ok (.aload_n 0, 1) := by decide +kernel
theorem dX10_fewest_15 : decode cX10_fewest 15 = .ok (.getfield 72, 3) := by decide +kernel
theorem dX10_fewest_18 : decode cX10_fewest 18 = .ok (.ifCond .le 48, 3) := by decide +kernel
theorem dX10_fewest_21 : decode cX10_fewest 21 = .ok (.iload_n 1, 1) := by decide +kernel
theorem dX10_fewest_22 : decode cX10_fewest 22 = .ok (.ifCond .lt 14, 3) := by decide +kernel
theorem dX10_fewest_25 : decode cX10_fewest 25 = .ok (.iload_n 2, 1) := by decide +kernel
theorem dX10_fewest_26 : decode cX10_fewest 26 = .ok (.invokestatic 188, 3) := by decide +kernel
theorem dX10_fewest_29 : decode cX10_fewest 29 = .ok (.iload_n 1, 1) := by decide +kernel
theorem dX10_fewest_30 : decode cX10_fewest 30 = .ok (.invokestatic 188, 3) := by decide +kernel
theorem dX10_fewest_33 : decode cX10_fewest 33 = .ok (.if_icmp .ge 7, 3) := by decide +kernel
theorem dX10_fewest_36 : decode cX10_fewest 36 = .ok (.iconst 1, 1) := by decide +kernel
theorem dX10_fewest_37 : decode cX10_fewest 37 = .ok (.goto 4, 3) := by decide +kernel
theorem dX10_fewest_40 : decode cX10_fewest 40 = .ok (.iconst 0, 1) := by decide +kernel
theorem dX10_fewest_41 : decode cX10_fewest 41 = .ok (.istore_n 3, 1) := by decide +kernel
theorem dX10_fewest_42 : decode cX10_fewest 42 = .ok (.iload_n 3, 1) := by decide +kernel
theorem dX10_fewest_43 : decode cX10_fewest 43 = .ok (.ifCond .eq 15, 3) := by decide +kernel
theorem dX10_fewest_46 : decode cX10_fewest 46 = .ok (.aload_n 0, 1) := by decide +kernel
theorem dX10_fewest_47 : decode cX10_fewest 47 = .ok (.iload_n 2, 1) := by decide +kernel
theorem dX10_fewest_48 : decode cX10_fewest 48 = .ok (.invokevirtual 185, 3) := by decide +kernel
theorem dX10_fewest_51 : decode cX10_fewest 51 = .ok (.ifCond .eq 7, 3) := by decide +kernel
theorem dX10_fewest_54 : decode cX10_fewest 54 = .ok (.iload_n 2, 1) := by decide +kernel
theorem dX10_fewest_55 : decode cX10_fewest 55 = .ok (.goto 4, 3) := by decide +kernel
theorem dX10_fewest_58 : decode cX10_fewest 58 = .ok (.iload_n 1, 1) := by decide +kernel
theorem dX10_fewest_59 : decode cX10_fewest 59 = .ok (.istore_n 1, 1) := by decide +kernel
theorem dX10_fewest_60 : decode cX10_fewest 60 = .ok (.iinc 2 1, 3) := by decide +kernel
theorem dX10_fewest_63 : decode cX10_fewest 63 = .ok (.goto (-59), 3) := by decide +kernel
theorem dX10_fewest_66 : decode cX10_fewest 66 = .ok (.iload_n 1, 1) := by decide +kernel
theorem dX10_fewest_67 : decode cX10_fewest 67 = .ok (.ireturn, 1) := by decide +kernel
theorem dX10_wrongOnes_0 : decode cX10_wrongOnes 0 = .ok (.iconst 0, 1) := by decide +kernel
theorem dX10_wrongOnes_1 : decode cX10_wrongOnes 1 = .ok (.istore_n 1, 1) := by decide +kernel
theorem dX10_wrongOnes_2 : decode cX10_wrongOnes 2 = .ok (.iconst 0, 1) := by decide +kernel
theorem dX10_wrongOnes_3 : decode cX10_wrongOnes 3 = .ok (.istore_n 2, 1) := by decide +kernel
theorem dX10_wrongOnes_4 : decode cX10_wrongOnes 4 = .ok (.iload_n 2, 1) := by decide +kernel
theorem dX10_wrongOnes_5 : decode cX10_wrongOnes 5 = .ok (.aload_n 0, 1) := by decide +kernel
theorem dX10_wrongOnes_6 : decode cX10_wrongOnes 6 = .ok (.getfield 79, 3) := by decide +kernel
theorem dX10_wrongOnes_9 : decode cX10_wrongOnes 9 = .ok (.if_icmp .ge 34, 3) := by decide +kernel
theorem dX10_wrongOnes_12 : decode cX10_wrongOnes 12 = .ok (.iload_n 1, 1) := by decide +kernel
theorem dX10_wrongOnes_13 : decode cX10_wrongOnes 13 = .ok (.aload_n 0, 1) := by decide +kernel
theorem dX10_wrongOnes_14 : decode cX10_wrongOnes 14 = .ok (.getfield 22, 3) := by decide +kernel
theorem dX10_wrongOnes_17 : decode cX10_wrongOnes 17 = .ok (.iload_n 2, 1) := by decide +kernel
theorem dX10_wrongOnes_18 : decode cX10_wrongOnes 18 = .ok (.iaload, 1) := by decide +kernel
theorem dX10_wrongOnes_19 : decode cX10_wrongOnes 19 = .ok (.aload_n 0, 1) := by decide +kernel
theorem dX10_wrongOnes_20 : decode cX10_wrongOnes 20 = .ok (.getfield 16, 3) := by decide +kernel
theorem dX10_wrongOnes_23 : decode cX10_wrongOnes 23 = .ok (.iload_n 2, 1) := by decide +kernel
theorem dX10_wrongOnes_24 : decode cX10_wrongOnes 24 = .ok (.iaload, 1) := by decide +kernel
theorem dX10_wrongOnes_25 : decode cX10_wrongOnes 25 = .ok (.if_icmp .eq 9, 3) := by decide +kernel
theorem dX10_wrongOnes_28 : decode cX10_wrongOnes 28 = .ok (.iconst 1, 1) := by decide +kernel
theorem dX10_wrongOnes_29 : decode cX10_wrongOnes 29 = .ok (.iload_n 2, 1) := by decide +kernel
theorem dX10_wrongOnes_30 : decode cX10_wrongOnes 30 = .ok (.ishl, 1) := by decide +kernel
theorem dX10_wrongOnes_31 : decode cX10_wrongOnes 31 = .ok (.goto 4, 3) := by decide +kernel
theorem dX10_wrongOnes_34 : decode cX10_wrongOnes 34 = .ok (.iconst 0, 1) := by decide +kernel
theorem dX10_wrongOnes_35 : decode cX10_wrongOnes 35 = .ok (.ior, 1) := by decide +kernel
theorem dX10_wrongOnes_36 : decode cX10_wrongOnes 36 = .ok (.istore_n 1, 1) := by decide +kernel
theorem dX10_wrongOnes_37 : decode cX10_wrongOnes 37 = .ok (.iinc 2 1, 3) := by decide +kernel
theorem dX10_wrongOnes_40 : decode cX10_wrongOnes 40 = .ok (.goto (-36), 3) := by decide +kernel
theorem dX10_wrongOnes_43 : decode cX10_wrongOnes 43 = .ok (.iload_n 1, 1) := by decide +kernel
theorem dX10_wrongOnes_44 : decode cX10_wrongOnes 44 = .ok (.ireturn, 1) := by decide +kernel
theorem dX10_closeOnes_0 : decode cX10_closeOnes 0 = .ok (.iconst 0, 1) := by decide +kernel
theorem dX10_closeOnes_1 : decode cX10_closeOnes 1 = .ok (.istore_n 2, 1) := by decide +kernel
theorem dX10_closeOnes_2 : decode cX10_closeOnes 2 = .ok (.iconst 0, 1) := by decide +kernel
theorem dX10_closeOnes_3 : decode cX10_closeOnes 3 = .ok (.istore_n 3, 1) := by decide +kernel
theorem dX10_closeOnes_4 : decode cX10_closeOnes 4 = .ok (.iload_n 3, 1) := by decide +kernel
theorem dX10_closeOnes_5 : decode cX10_closeOnes 5 = .ok (.aload_n 0, 1) := by decide +kernel
theorem dX10_closeOnes_6 : decode cX10_closeOnes 6 = .ok (.getfield 79, 3) := by decide +kernel
theorem dX10_closeOnes_9 : decode cX10_closeOnes 9 = .ok (.if_icmp .ge 40, 3) := by decide +kernel
theorem dX10_closeOnes_12 : decode cX10_closeOnes 12 = .ok (.iload_n 2, 1) := by decide +kernel
theorem dX10_closeOnes_13 : decode cX10_closeOnes 13 = .ok (.aload_n 0, 1) := by decide +kernel
theorem dX10_closeOnes_14 : decode cX10_closeOnes 14 = .ok (.getfield 22, 3) := by decide +kernel
theorem dX10_closeOnes_17 : decode cX10_closeOnes 17 = .ok (.bipush 17, 2) := by decide +kernel
theorem dX10_closeOnes_19 : decode cX10_closeOnes 19 = .ok (.iload_n 3, 1) := by decide +kernel
theorem dX10_closeOnes_20 : decode cX10_closeOnes 20 = .ok (.iadd, 1) := by decide +kernel
theorem dX10_closeOnes_21 : decode cX10_closeOnes 21 = .ok (.iaload, 1) := by decide +kernel
theorem dX10_closeOnes_22 : decode cX10_closeOnes 22 = .ok (.aload_n 0, 1) := by decide +kernel
theorem dX10_closeOnes_23 : decode cX10_closeOnes 23 = .ok (.getfield 149, 3) := by decide +kernel
theorem dX10_closeOnes_26 : decode cX10_closeOnes 26 = .ok (.ixor, 1) := by decide +kernel
theorem dX10_closeOnes_27 : decode cX10_closeOnes 27 = .ok (.invokestatic 188, 3) := by decide +kernel
theorem dX10_closeOnes_30 : decode cX10_closeOnes 30 = .ok (.iload_n 1, 1) := by decide +kernel
theorem dX10_closeOnes_31 : decode cX10_closeOnes 31 = .ok (.if_icmp .gt 9, 3) := by decide +kernel
theorem dX10_closeOnes_34 : decode cX10_closeOnes 34 = .ok (.iconst 1, 1) := by decide +kernel
theorem dX10_closeOnes_35 : decode cX10_closeOnes 35 = .ok (.iload_n 3, 1) := by decide +kernel
theorem dX10_closeOnes_36 : decode cX10_closeOnes 36 = .ok (.ishl, 1) := by decide +kernel
theorem dX10_closeOnes_37 : decode cX10_closeOnes 37 = .ok (.goto 4, 3) := by decide +kernel
theorem dX10_closeOnes_40 : decode cX10_closeOnes 40 = .ok (.iconst 0, 1) := by decide +kernel
theorem dX10_closeOnes_41 : decode cX10_closeOnes 41 = .ok (.ior, 1) := by decide +kernel
theorem dX10_closeOnes_42 : decode cX10_closeOnes 42 = .ok (.istore_n 2, 1) := by decide +kernel
theorem dX10_closeOnes_43 : decode cX10_closeOnes 43 = .ok (.iinc 3 1, 3) := by decide +kernel
theorem dX10_closeOnes_46 : decode cX10_closeOnes 46 = .ok (.goto (-42), 3) := by decide +kernel
theorem dX10_closeOnes_49 : decode cX10_closeOnes 49 = .ok (.iload_n 2, 1) := by decide +kernel
theorem dX10_closeOnes_50 : decode cX10_closeOnes 50 = .ok (.ireturn, 1) := by decide +kernel
theorem dX10_tells_0 : decode cX10_tells 0 = .ok (.iconst 1, 1) := by decide +kernel
theorem dX10_tells_1 : decode cX10_tells 1 = .ok (.istore_n 2, 1) := by decide +kernel
theorem dX10_tells_2 : decode cX10_tells 2 = .ok (.iconst 0, 1) := by decide +kernel
theorem dX10_tells_3 : decode cX10_tells 3 = .ok (.istore_n 3, 1) := by decide +kernel
theorem dX10_tells_4 : decode cX10_tells 4 = .ok (.iload_n 3, 1) := by decide +kernel
theorem dX10_tells_5 : decode cX10_tells 5 = .ok (.aload_n 0, 1) := by decide +kernel
theorem dX10_tells_6 : decode cX10_tells 6 = .ok (.getfield 79, 3) := by decide +kernel
theorem dX10_tells_9 : decode cX10_tells 9 = .ok (.if_icmp .ge 73, 3) := by decide +kernel
theorem dX10_tells_12 : decode cX10_tells 12 = .ok (.iload_n 3, 1) := by decide +kernel
theorem dX10_tells_13 : decode cX10_tells 13 = .ok (.iconst 1, 1) := by decide +kernel
theorem dX10_tells_14 : decode cX10_tells 14 = .ok (.iadd, 1) := by decide +kernel
theorem dX10_tells_15 : decode cX10_tells 15 = .ok (.istore 4, 2) := by decide +kernel
theorem dX10_tells_17 : decode cX10_tells 17 = .ok (.iload 4, 2) := by decide +kernel
theorem dX10_tells_19 : decode cX10_tells 19 = .ok (.aload_n 0, 1) := by decide +kernel
theorem dX10_tells_20 : decode cX10_tells 20 = .ok (.getfield 79, 3) := by decide +kernel
theorem dX10_tells_23 : decode cX10_tells 23 = .ok (.if_icmp .ge 53, 3) := by decide +kernel
theorem dX10_tells_26 : decode cX10_tells 26 = .ok (.aload_n 0, 1) := by decide +kernel
theorem dX10_tells_27 : decode cX10_tells 27 = .ok (.getfield 22, 3) := by decide +kernel
theorem dX10_tells_30 : decode cX10_tells 30 = .ok (.bipush 17, 2) := by decide +kernel
theorem dX10_tells_32 : decode cX10_tells 32 = .ok (.iload_n 3, 1) := by decide +kernel
theorem dX10_tells_33 : decode cX10_tells 33 = .ok (.iadd, 1) := by decide +kernel
theorem dX10_tells_34 : decode cX10_tells 34 = .ok (.iaload, 1) := by decide +kernel
theorem dX10_tells_35 : decode cX10_tells 35 = .ok (.aload_n 0, 1) := by decide +kernel
theorem dX10_tells_36 : decode cX10_tells 36 = .ok (.getfield 22, 3) := by decide +kernel
theorem dX10_tells_39 : decode cX10_tells 39 = .ok (.bipush 17, 2) := by decide +kernel
theorem dX10_tells_41 : decode cX10_tells 41 = .ok (.iload 4, 2) := by decide +kernel
theorem dX10_tells_43 : decode cX10_tells 43 = .ok (.iadd, 1) := by decide +kernel
theorem dX10_tells_44 : decode cX10_tells 44 = .ok (.iaload, 1) := by decide +kernel
theorem dX10_tells_45 : decode cX10_tells 45 = .ok (.ixor, 1) := by decide +kernel
theorem dX10_tells_46 : decode cX10_tells 46 = .ok (.istore 5, 2) := by decide +kernel
theorem dX10_tells_48 : decode cX10_tells 48 = .ok (.iload_n 2, 1) := by decide +kernel
theorem dX10_tells_49 : decode cX10_tells 49 = .ok (.ifCond .eq 19, 3) := by decide +kernel
theorem dX10_tells_52 : decode cX10_tells 52 = .ok (.iload 5, 2) := by decide +kernel
theorem dX10_tells_54 : decode cX10_tells 54 = .ok (.ifCond .eq 10, 3) := by decide +kernel
theorem dX10_tells_57 : decode cX10_tells 57 = .ok (.iload 5, 2) := by decide +kernel
theorem dX10_tells_59 : decode cX10_tells 59 = .ok (.iload_n 1, 1) := by decide +kernel
theorem dX10_tells_60 : decode cX10_tells 60 = .ok (.iand, 1) := by decide +kernel
theorem dX10_tells_61 : decode cX10_tells 61 = .ok (.ifCond .eq 7, 3) := by decide +kernel
theorem dX10_tells_64 : decode cX10_tells 64 = .ok (.iconst 1, 1) := by decide +kernel
theorem dX10_tells_65 : decode cX10_tells 65 = .ok (.goto 4, 3) := by decide +kernel
theorem dX10_tells_68 : decode cX10_tells 68 = .ok (.iconst 0, 1) := by decide +kernel
theorem dX10_tells_69 : decode cX10_tells 69 = .ok (.istore_n 2, 1) := by decide +kernel
theorem dX10_tells_70 : decode cX10_tells 70 = .ok (.iinc 4 1, 3) := by decide +kernel
theorem dX10_tells_73 : decode cX10_tells 73 = .ok (.goto (-56), 3) := by decide +kernel
theorem dX10_tells_76 : decode cX10_tells 76 = .ok (.iinc 3 1, 3) := by decide +kernel
theorem dX10_tells_79 : decode cX10_tells 79 = .ok (.goto (-75), 3) := by decide +kernel
theorem dX10_tells_82 : decode cX10_tells 82 = .ok (.iload_n 2, 1) := by decide +kernel
theorem dX10_tells_83 : decode cX10_tells 83 = .ok (.ireturn, 1) := by decide +kernel
theorem dX10_tellingOnes_0 : decode cX10_tellingOnes 0 = .ok (.bipush 63, 2) := by decide +kernel
theorem dX10_tellingOnes_2 : decode cX10_tellingOnes 2 = .ok (.istore_n 1, 1) := by decide +kernel
theorem dX10_tellingOnes_3 : decode cX10_tellingOnes 3 = .ok (.iconst 0, 1) := by decide +kernel
theorem dX10_tellingOnes_4 : decode cX10_tellingOnes 4 = .ok (.istore_n 2, 1) := by decide +kernel
theorem dX10_tellingOnes_5 : decode cX10_tellingOnes 5 = .ok (.iload_n 2, 1) := by decide +kernel
theorem dX10_tellingOnes_6 : decode cX10_tellingOnes 6 = .ok (.bipush 64, 2) := by decide +kernel
theorem dX10_tellingOnes_8 : decode cX10_tellingOnes 8 = .ok (.if_icmp .ge 34, 3) := by decide +kernel
theorem dX10_tellingOnes_11 : decode cX10_tellingOnes 11 = .ok (.iload_n 2, 1) := by decide +kernel
theorem dX10_tellingOnes_12 : decode cX10_tellingOnes 12 = .ok (.invokestatic 188, 3) := by decide +kernel
theorem dX10_tellingOnes_15 : decode cX10_tellingOnes 15 = .ok (.iload_n 1, 1) := by decide +kernel
theorem dX10_tellingOnes_16 : decode cX10_tellingOnes 16 = .ok (.invokestatic 188, 3) := by decide +kernel
theorem dX10_tellingOnes_19 : decode cX10_tellingOnes 19 = .ok (.if_icmp .ge 15, 3) := by decide +kernel
theorem dX10_tellingOnes_22 : decode cX10_tellingOnes 22 = .ok (.aload_n 0, 1) := by decide +kernel
theorem dX10_tellingOnes_23 : decode cX10_tellingOnes 23 = .ok (.iload_n 2, 1) := by decide +kernel
theorem dX10_tellingOnes_24 : decode cX10_tellingOnes 24 = .ok (.invokevirtual 194, 3) := by decide +kernel
theorem dX10_tellingOnes_27 : decode cX10_tellingOnes 27 = .ok (.ifCond .eq 7, 3) := by decide +kernel
theorem dX10_tellingOnes_30 : decode cX10_tellingOnes 30 = .ok (.iload_n 2, 1) := by decide +kernel
theorem dX10_tellingOnes_31 : decode cX10_tellingOnes 31 = .ok (.goto 4, 3) := by decide +kernel
theorem dX10_tellingOnes_34 : decode cX10_tellingOnes 34 = .ok (.iload_n 1, 1) := by decide +kernel
theorem dX10_tellingOnes_35 : decode cX10_tellingOnes 35 = .ok (.istore_n 1, 1) := by decide +kernel
theorem dX10_tellingOnes_36 : decode cX10_tellingOnes 36 = .ok (.iinc 2 1, 3) := by decide +kernel
theorem dX10_tellingOnes_39 : decode cX10_tellingOnes 39 = .ok (.goto (-34), 3) := by decide +kernel
theorem dX10_tellingOnes_42 : decode cX10_tellingOnes 42 = .ok (.iload_n 1, 1) := by decide +kernel
theorem dX10_tellingOnes_43 : decode cX10_tellingOnes 43 = .ok (.ireturn, 1) := by decide +kernel
theorem dX10_told_0 : decode cX10_told 0 = .ok (.iload_n 1, 1) := by decide +kernel
theorem dX10_told_1 : decode cX10_told 1 = .ok (.tableswitch 181 0 16 #[83, 88, 93, 98, 103, 108, 116, 124, 129, 135, 140, 148, 156, 161, 166, 171, 176], 83) := by decide +kernel
theorem dX10_told_84 : decode cX10_told 84 = .ok (.aload_n 0, 1) := by decide +kernel
theorem dX10_told_85 : decode cX10_told 85 = .ok (.getfield 72, 3) := by decide +kernel
theorem dX10_told_88 : decode cX10_told 88 = .ok (.ireturn, 1) := by decide +kernel
theorem dX10_told_89 : decode cX10_told 89 = .ok (.aload_n 0, 1) := by decide +kernel
theorem dX10_told_90 : decode cX10_told 90 = .ok (.getfield 79, 3) := by decide +kernel
theorem dX10_told_93 : decode cX10_told 93 = .ok (.ireturn, 1) := by decide +kernel
theorem dX10_told_94 : decode cX10_told 94 = .ok (.aload_n 0, 1) := by decide +kernel
theorem dX10_told_95 : decode cX10_told 95 = .ok (.getfield 85, 3) := by decide +kernel
theorem dX10_told_98 : decode cX10_told 98 = .ok (.ireturn, 1) := by decide +kernel
theorem dX10_told_99 : decode cX10_told 99 = .ok (.aload_n 0, 1) := by decide +kernel
theorem dX10_told_100 : decode cX10_told 100 = .ok (.getfield 149, 3) := by decide +kernel
theorem dX10_told_103 : decode cX10_told 103 = .ok (.ireturn, 1) := by decide +kernel
theorem dX10_told_104 : decode cX10_told 104 = .ok (.aload_n 0, 1) := by decide +kernel
theorem dX10_told_105 : decode cX10_told 105 = .ok (.getfield 160, 3) := by decide +kernel
theorem dX10_told_108 : decode cX10_told 108 = .ok (.ireturn, 1) := by decide +kernel
theorem dX10_told_109 : decode cX10_told 109 = .ok (.aload_n 0, 1) := by decide +kernel
theorem dX10_told_110 : decode cX10_told 110 = .ok (.getfield 22, 3) := by decide +kernel
theorem dX10_told_113 : decode cX10_told 113 = .ok (.bipush 33, 2) := by decide +kernel
theorem dX10_told_115 : decode cX10_told 115 = .ok (.iaload, 1) := by decide +kernel
theorem dX10_told_116 : decode cX10_told 116 = .ok (.ireturn, 1) := by decide +kernel
theorem dX10_told_117 : decode cX10_told 117 = .ok (.aload_n 0, 1) := by decide +kernel
theorem dX10_told_118 : decode cX10_told 118 = .ok (.getfield 22, 3) := by decide +kernel
theorem dX10_told_121 : decode cX10_told 121 = .ok (.bipush 8, 2) := by decide +kernel
theorem dX10_told_123 : decode cX10_told 123 = .ok (.iaload, 1) := by decide +kernel
theorem dX10_told_124 : decode cX10_told 124 = .ok (.ireturn, 1) := by decide +kernel
theorem dX10_told_125 : decode cX10_told 125 = .ok (.aload_n 0, 1) := by decide +kernel
theorem dX10_told_126 : decode cX10_told 126 = .ok (.invokevirtual 197, 3) := by decide +kernel
theorem dX10_told_129 : decode cX10_told 129 = .ok (.ireturn, 1) := by decide +kernel
theorem dX10_told_130 : decode cX10_told 130 = .ok (.aload_n 0, 1) := by decide +kernel
theorem dX10_told_131 : decode cX10_told 131 = .ok (.iconst 0, 1) := by decide +kernel
theorem dX10_told_132 : decode cX10_told 132 = .ok (.invokevirtual 200, 3) := by decide +kernel
theorem dX10_told_135 : decode cX10_told 135 = .ok (.ireturn, 1) := by decide +kernel
theorem dX10_told_136 : decode cX10_told 136 = .ok (.aload_n 0, 1) := by decide +kernel
