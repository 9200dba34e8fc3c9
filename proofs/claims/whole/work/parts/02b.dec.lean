theorem dX5_copyFrom_40 : decode cX5_copyFrom 40 = .ok (.bipush 8, 2) := by decide +kernel
theorem dX5_copyFrom_42 : decode cX5_copyFrom 42 = .ok (.invokestatic 29, 3) := by decide +kernel
theorem dX5_copyFrom_45 : decode cX5_copyFrom 45 = .ok (.aload_n 1, 1) := by decide +kernel
theorem dX5_copyFrom_46 : decode cX5_copyFrom 46 = .ok (.getfield 21, 3) := by decide +kernel
theorem dX5_copyFrom_49 : decode cX5_copyFrom 49 = .ok (.iconst 0, 1) := by decide +kernel
theorem dX5_copyFrom_50 : decode cX5_copyFrom 50 = .ok (.aload_n 0, 1) := by decide +kernel
theorem dX5_copyFrom_51 : decode cX5_copyFrom 51 = .ok (.getfield 21, 3) := by decide +kernel
theorem dX5_copyFrom_54 : decode cX5_copyFrom 54 = .ok (.iconst 0, 1) := by decide +kernel
theorem dX5_copyFrom_55 : decode cX5_copyFrom 55 = .ok (.bipush 8, 2) := by decide +kernel
theorem dX5_copyFrom_57 : decode cX5_copyFrom 57 = .ok (.invokestatic 29, 3) := by decide +kernel
theorem dX5_copyFrom_60 : decode cX5_copyFrom 60 = .ok (.aload_n 0, 1) := by decide +kernel
theorem dX5_copyFrom_61 : decode cX5_copyFrom 61 = .ok (.aload_n 1, 1) := by decide +kernel
theorem dX5_copyFrom_62 : decode cX5_copyFrom 62 = .ok (.getfield 46, 3) := by decide +kernel
theorem dX5_copyFrom_65 : decode cX5_copyFrom 65 = .ok (.putfield 46, 3) := by decide +kernel
theorem dX5_copyFrom_68 : decode cX5_copyFrom 68 = .ok (.aload_n 0, 1) := by decide +kernel
theorem dX5_copyFrom_69 : decode cX5_copyFrom 69 = .ok (.aload_n 1, 1) := by decide +kernel
theorem dX5_copyFrom_70 : decode cX5_copyFrom 70 = .ok (.getfield 49, 3) := by decide +kernel
theorem dX5_copyFrom_73 : decode cX5_copyFrom 73 = .ok (.putfield 49, 3) := by decide +kernel
theorem dX5_copyFrom_76 : decode cX5_copyFrom 76 = .ok (.aload_n 0, 1) := by decide +kernel
theorem dX5_copyFrom_77 : decode cX5_copyFrom 77 = .ok (.aload_n 1, 1) := by decide +kernel
theorem dX5_copyFrom_78 : decode cX5_copyFrom 78 = .ok (.getfield 52, 3) := by decide +kernel
theorem dX5_copyFrom_81 : decode cX5_copyFrom 81 = .ok (.putfield 52, 3) := by decide +kernel
theorem dX5_copyFrom_84 : decode cX5_copyFrom 84 = .ok (.aload_n 0, 1) := by decide +kernel
theorem dX5_copyFrom_85 : decode cX5_copyFrom 85 = .ok (.aload_n 1, 1) := by decide +kernel
theorem dX5_copyFrom_86 : decode cX5_copyFrom 86 = .ok (.getfield 55, 3) := by decide +kernel
theorem dX5_copyFrom_89 : decode cX5_copyFrom 89 = .ok (.putfield 55, 3) := by decide +kernel
theorem dX5_copyFrom_92 : decode cX5_copyFrom 92 = .ok (.return_, 1) := by decide +kernel
theorem dX5_isUp_0 : decode cX5_isUp 0 = .ok (.aload_n 0, 1) := by decide +kernel
theorem dX5_isUp_1 : decode cX5_isUp 1 = .ok (.getfield 46, 3) := by decide +kernel
theorem dX5_isUp_4 : decode cX5_isUp 4 = .ok (.iload_n 1, 1) := by decide +kernel
theorem dX5_isUp_5 : decode cX5_isUp 5 = .ok (.ishr, 1) := by decide +kernel
theorem dX5_isUp_6 : decode cX5_isUp 6 = .ok (.iconst 1, 1) := by decide +kernel
theorem dX5_isUp_7 : decode cX5_isUp 7 = .ok (.iand, 1) := by decide +kernel
theorem dX5_isUp_8 : decode cX5_isUp 8 = .ok (.iconst 1, 1) := by decide +kernel
theorem dX5_isUp_9 : decode cX5_isUp 9 = .ok (.if_icmp .ne 7, 3) := by decide +kernel
theorem dX5_isUp_12 : decode cX5_isUp 12 = .ok (.iconst 1, 1) := by decide +kernel
theorem dX5_isUp_13 : decode cX5_isUp 13 = .ok (.goto 4, 3) := by decide +kernel
theorem dX5_isUp_16 : decode cX5_isUp 16 = .ok (.iconst 0, 1) := by decide +kernel
theorem dX5_isUp_17 : decode cX5_isUp 17 = .ok (.ireturn, 1) := by decide +kernel
theorem dX5_raise_0 : decode cX5_raise 0 = .ok (.aload_n 0, 1) := by decide +kernel
theorem dX5_raise_1 : decode cX5_raise 1 = .ok (.dup, 1) := by decide +kernel
theorem dX5_raise_2 : decode cX5_raise 2 = .ok (.getfield 46, 3) := by decide +kernel
theorem dX5_raise_5 : decode cX5_raise 5 = .ok (.iconst 1, 1) := by decide +kernel
theorem dX5_raise_6 : decode cX5_raise 6 = .ok (.iload_n 1, 1) := by decide +kernel
theorem dX5_raise_7 : decode cX5_raise 7 = .ok (.ishl, 1) := by decide +kernel
theorem dX5_raise_8 : decode cX5_raise 8 = .ok (.ior, 1) := by decide +kernel
theorem dX5_raise_9 : decode cX5_raise 9 = .ok (.putfield 46, 3) := by decide +kernel
theorem dX5_raise_12 : decode cX5_raise 12 = .ok (.return_, 1) := by decide +kernel
theorem dX5_layBack_0 : decode cX5_layBack 0 = .ok (.aload_n 0, 1) := by decide +kernel
theorem dX5_layBack_1 : decode cX5_layBack 1 = .ok (.dup, 1) := by decide +kernel
theorem dX5_layBack_2 : decode cX5_layBack 2 = .ok (.getfield 46, 3) := by decide +kernel
theorem dX5_layBack_5 : decode cX5_layBack 5 = .ok (.iconst 1, 1) := by decide +kernel
theorem dX5_layBack_6 : decode cX5_layBack 6 = .ok (.iload_n 1, 1) := by decide +kernel
theorem dX5_layBack_7 : decode cX5_layBack 7 = .ok (.ishl, 1) := by decide +kernel
theorem dX5_layBack_8 : decode cX5_layBack 8 = .ok (.iconst (-1), 1) := by decide +kernel
theorem dX5_layBack_9 : decode cX5_layBack 9 = .ok (.ixor, 1) := by decide +kernel
theorem dX5_layBack_10 : decode cX5_layBack 10 = .ok (.iand, 1) := by decide +kernel
theorem dX5_layBack_11 : decode cX5_layBack 11 = .ok (.putfield 46, 3) := by decide +kernel
theorem dX5_layBack_14 : decode cX5_layBack 14 = .ok (.return_, 1) := by decide +kernel
theorem dX5_send_0 : decode cX5_send 0 = .ok (.aload_n 0, 1) := by decide +kernel
theorem dX5_send_1 : decode cX5_send 1 = .ok (.getfield 9, 3) := by decide +kernel
theorem dX5_send_4 : decode cX5_send 4 = .ok (.iload_n 1, 1) := by decide +kernel
theorem dX5_send_5 : decode cX5_send 5 = .ok (.iload_n 2, 1) := by decide +kernel
theorem dX5_send_6 : decode cX5_send 6 = .ok (.iastore, 1) := by decide +kernel
theorem dX5_send_7 : decode cX5_send 7 = .ok (.aload_n 0, 1) := by decide +kernel
theorem dX5_send_8 : decode cX5_send 8 = .ok (.iload_n 1, 1) := by decide +kernel
theorem dX5_send_9 : decode cX5_send 9 = .ok (.invokevirtual 58, 3) := by decide +kernel
theorem dX5_send_12 : decode cX5_send 12 = .ok (.return_, 1) := by decide +kernel
theorem dX5_exchange_0 : decode cX5_exchange 0 = .ok (.aload_n 0, 1) := by decide +kernel
theorem dX5_exchange_1 : decode cX5_exchange 1 = .ok (.getfield 9, 3) := by decide +kernel
theorem dX5_exchange_4 : decode cX5_exchange 4 = .ok (.iload_n 1, 1) := by decide +kernel
theorem dX5_exchange_5 : decode cX5_exchange 5 = .ok (.iaload, 1) := by decide +kernel
theorem dX5_exchange_6 : decode cX5_exchange 6 = .ok (.istore_n 3, 1) := by decide +kernel
theorem dX5_exchange_7 : decode cX5_exchange 7 = .ok (.aload_n 0, 1) := by decide +kernel
theorem dX5_exchange_8 : decode cX5_exchange 8 = .ok (.iload_n 1, 1) := by decide +kernel
theorem dX5_exchange_9 : decode cX5_exchange 9 = .ok (.aload_n 0, 1) := by decide +kernel
theorem dX5_exchange_10 : decode cX5_exchange 10 = .ok (.getfield 9, 3) := by decide +kernel
theorem dX5_exchange_13 : decode cX5_exchange 13 = .ok (.iload_n 2, 1) := by decide +kernel
theorem dX5_exchange_14 : decode cX5_exchange 14 = .ok (.iaload, 1) := by decide +kernel
theorem dX5_exchange_15 : decode cX5_exchange 15 = .ok (.invokevirtual 62, 3) := by decide +kernel
theorem dX5_exchange_18 : decode cX5_exchange 18 = .ok (.aload_n 0, 1) := by decide +kernel
theorem dX5_exchange_19 : decode cX5_exchange 19 = .ok (.iload_n 2, 1) := by decide +kernel
theorem dX5_exchange_20 : decode cX5_exchange 20 = .ok (.iload_n 3, 1) := by decide +kernel
theorem dX5_exchange_21 : decode cX5_exchange 21 = .ok (.invokevirtual 62, 3) := by decide +kernel
theorem dX5_exchange_24 : decode cX5_exchange 24 = .ok (.return_, 1) := by decide +kernel
theorem dX5_strays_0 : decode cX5_strays 0 = .ok (.iconst 0, 1) := by decide +kernel
theorem dX5_strays_1 : decode cX5_strays 1 = .ok (.istore_n 2, 1) := by decide +kernel
theorem dX5_strays_2 : decode cX5_strays 2 = .ok (.iconst 0, 1) := by decide +kernel
theorem dX5_strays_3 : decode cX5_strays 3 = .ok (.istore_n 3, 1) := by decide +kernel
theorem dX5_strays_4 : decode cX5_strays 4 = .ok (.iload_n 3, 1) := by decide +kernel
theorem dX5_strays_5 : decode cX5_strays 5 = .ok (.aload_n 1, 1) := by decide +kernel
theorem dX5_strays_6 : decode cX5_strays 6 = .ok (.getfield 42, 3) := by decide +kernel
theorem dX5_strays_9 : decode cX5_strays 9 = .ok (.if_icmp .ge 30, 3) := by decide +kernel
theorem dX5_strays_12 : decode cX5_strays 12 = .ok (.aload_n 0, 1) := by decide +kernel
theorem dX5_strays_13 : decode cX5_strays 13 = .ok (.getfield 9, 3) := by decide +kernel
theorem dX5_strays_16 : decode cX5_strays 16 = .ok (.iload_n 3, 1) := by decide +kernel
theorem dX5_strays_17 : decode cX5_strays 17 = .ok (.iaload, 1) := by decide +kernel
theorem dX5_strays_18 : decode cX5_strays 18 = .ok (.aload_n 1, 1) := by decide +kernel
theorem dX5_strays_19 : decode cX5_strays 19 = .ok (.getfield 24, 3) := by decide +kernel
theorem dX5_strays_22 : decode cX5_strays 22 = .ok (.iload_n 3, 1) := by decide +kernel
theorem dX5_strays_23 : decode cX5_strays 23 = .ok (.iaload, 1) := by decide +kernel
theorem dX5_strays_24 : decode cX5_strays 24 = .ok (.if_icmp .eq 9, 3) := by decide +kernel
theorem dX5_strays_27 : decode cX5_strays 27 = .ok (.iload_n 2, 1) := by decide +kernel
theorem dX5_strays_28 : decode cX5_strays 28 = .ok (.iconst 1, 1) := by decide +kernel
theorem dX5_strays_29 : decode cX5_strays 29 = .ok (.iload_n 3, 1) := by decide +kernel
theorem dX5_strays_30 : decode cX5_strays 30 = .ok (.ishl, 1) := by decide +kernel
theorem dX5_strays_31 : decode cX5_strays 31 = .ok (.ior, 1) := by decide +kernel
theorem dX5_strays_32 : decode cX5_strays 32 = .ok (.istore_n 2, 1) := by decide +kernel
theorem dX5_strays_33 : decode cX5_strays 33 = .ok (.iinc 3 1, 3) := by decide +kernel
theorem dX5_strays_36 : decode cX5_strays 36 = .ok (.goto (-32), 3) := by decide +kernel
theorem dX5_strays_39 : decode cX5_strays 39 = .ok (.iload_n 2, 1) := by decide +kernel
theorem dX5_strays_40 : decode cX5_strays 40 = .ok (.ireturn, 1) := by decide +kernel
theorem dX5_nodding_0 : decode cX5_nodding 0 = .ok (.iconst 0, 1) := by decide +kernel
theorem dX5_nodding_1 : decode cX5_nodding 1 = .ok (.istore_n 2, 1) := by decide +kernel
theorem dX5_nodding_2 : decode cX5_nodding 2 = .ok (.iconst 0, 1) := by decide +kernel
theorem dX5_nodding_3 : decode cX5_nodding 3 = .ok (.istore_n 3, 1) := by decide +kernel
theorem dX5_nodding_4 : decode cX5_nodding 4 = .ok (.iconst 0, 1) := by decide +kernel
theorem dX5_nodding_5 : decode cX5_nodding 5 = .ok (.istore 4, 2) := by decide +kernel
theorem dX5_nodding_7 : decode cX5_nodding 7 = .ok (.iload 4, 2) := by decide +kernel
theorem dX5_nodding_9 : decode cX5_nodding 9 = .ok (.aload_n 1, 1) := by decide +kernel
theorem dX5_nodding_10 : decode cX5_nodding 10 = .ok (.getfield 42, 3) := by decide +kernel
theorem dX5_nodding_13 : decode cX5_nodding 13 = .ok (.if_icmp .ge 53, 3) := by decide +kernel
theorem dX5_nodding_16 : decode cX5_nodding 16 = .ok (.aload_n 0, 1) := by decide +kernel
theorem dX5_nodding_17 : decode cX5_nodding 17 = .ok (.iload 4, 2) := by decide +kernel
theorem dX5_nodding_19 : decode cX5_nodding 19 = .ok (.invokevirtual 66, 3) := by decide +kernel
theorem dX5_nodding_22 : decode cX5_nodding 22 = .ok (.ifCond .eq 38, 3) := by decide +kernel
theorem dX5_nodding_25 : decode cX5_nodding 25 = .ok (.iload_n 2, 1) := by decide +kernel
theorem dX5_nodding_26 : decode cX5_nodding 26 = .ok (.iconst 1, 1) := by decide +kernel
theorem dX5_nodding_27 : decode cX5_nodding 27 = .ok (.aload_n 0, 1) := by decide +kernel
theorem dX5_nodding_28 : decode cX5_nodding 28 = .ok (.getfield 9, 3) := by decide +kernel
theorem dX5_nodding_31 : decode cX5_nodding 31 = .ok (.iload 4, 2) := by decide +kernel
theorem dX5_nodding_33 : decode cX5_nodding 33 = .ok (.iaload, 1) := by decide +kernel
theorem dX5_nodding_34 : decode cX5_nodding 34 = .ok (.ishl, 1) := by decide +kernel
theorem dX5_nodding_35 : decode cX5_nodding 35 = .ok (.ior, 1) := by decide +kernel
theorem dX5_nodding_36 : decode cX5_nodding 36 = .ok (.istore_n 2, 1) := by decide +kernel
theorem dX5_nodding_37 : decode cX5_nodding 37 = .ok (.aload_n 1, 1) := by decide +kernel
theorem dX5_nodding_38 : decode cX5_nodding 38 = .ok (.getfield 70, 3) := by decide +kernel
theorem dX5_nodding_41 : decode cX5_nodding 41 = .ok (.iload 4, 2) := by decide +kernel
theorem dX5_nodding_43 : decode cX5_nodding 43 = .ok (.iaload, 1) := by decide +kernel
theorem dX5_nodding_44 : decode cX5_nodding 44 = .ok (.iconst 1, 1) := by decide +kernel
theorem dX5_nodding_45 : decode cX5_nodding 45 = .ok (.if_icmp .ne 15, 3) := by decide +kernel
theorem dX5_nodding_48 : decode cX5_nodding 48 = .ok (.iload_n 3, 1) := by decide +kernel
theorem dX5_nodding_49 : decode cX5_nodding 49 = .ok (.iconst 1, 1) := by decide +kernel
theorem dX5_nodding_50 : decode cX5_nodding 50 = .ok (.aload_n 0, 1) := by decide +kernel
theorem dX5_nodding_51 : decode cX5_nodding 51 = .ok (.getfield 9, 3) := by decide +kernel
theorem dX5_nodding_54 : decode cX5_nodding 54 = .ok (.iload 4, 2) := by decide +kernel
theorem dX5_nodding_56 : decode cX5_nodding 56 = .ok (.iaload, 1) := by decide +kernel
theorem dX5_nodding_57 : decode cX5_nodding 57 = .ok (.ishl, 1) := by decide +kernel
theorem dX5_nodding_58 : decode cX5_nodding 58 = .ok (.ior, 1) := by decide +kernel
theorem dX5_nodding_59 : decode cX5_nodding 59 = .ok (.istore_n 3, 1) := by decide +kernel
theorem dX5_nodding_60 : decode cX5_nodding 60 = .ok (.iinc 4 1, 3) := by decide +kernel
theorem dX5_nodding_63 : decode cX5_nodding 63 = .ok (.goto (-56), 3) := by decide +kernel
theorem dX5_nodding_66 : decode cX5_nodding 66 = .ok (.iload_n 2, 1) := by decide +kernel
theorem dX5_nodding_67 : decode cX5_nodding 67 = .ok (.iload_n 3, 1) := by decide +kernel
theorem dX5_nodding_68 : decode cX5_nodding 68 = .ok (.iconst (-1), 1) := by decide +kernel
theorem dX5_nodding_69 : decode cX5_nodding 69 = .ok (.ixor, 1) := by decide +kernel
theorem dX5_nodding_70 : decode cX5_nodding 70 = .ok (.iand, 1) := by decide +kernel
theorem dX5_nodding_71 : decode cX5_nodding 71 = .ok (.ireturn, 1) := by decide +kernel
theorem dX5_holdAudience_0 : decode cX5_holdAudience 0 = .ok (.aload_n 1, 1) := by decide +kernel
theorem dX5_holdAudience_1 : decode cX5_holdAudience 1 = .ok (.getfield 73, 3) := by decide +kernel
theorem dX5_holdAudience_4 : decode cX5_holdAudience 4 = .ok (.aload_n 0, 1) := by decide +kernel
theorem dX5_holdAudience_5 : decode cX5_holdAudience 5 = .ok (.aload_n 1, 1) := by decide +kernel
theorem dX5_holdAudience_6 : decode cX5_holdAudience 6 = .ok (.invokevirtual 76, 3) := by decide +kernel
theorem dX5_holdAudience_9 : decode cX5_holdAudience 9 = .ok (.iaload, 1) := by decide +kernel
theorem dX5_holdAudience_10 : decode cX5_holdAudience 10 = .ok (.aload_n 1, 1) := by decide +kernel
theorem dX5_holdAudience_11 : decode cX5_holdAudience 11 = .ok (.getfield 80, 3) := by decide +kernel
theorem dX5_holdAudience_14 : decode cX5_holdAudience 14 = .ok (.if_icmp .lt 7, 3) := by decide +kernel
theorem dX5_holdAudience_17 : decode cX5_holdAudience 17 = .ok (.iconst 1, 1) := by decide +kernel
theorem dX5_holdAudience_18 : decode cX5_holdAudience 18 = .ok (.goto 4, 3) := by decide +kernel
theorem dX5_holdAudience_21 : decode cX5_holdAudience 21 = .ok (.iconst 0, 1) := by decide +kernel
theorem dX5_holdAudience_22 : decode cX5_holdAudience 22 = .ok (.istore_n 2, 1) := by decide +kernel
theorem dX5_holdAudience_23 : decode cX5_holdAudience 23 = .ok (.aload_n 0, 1) := by decide +kernel
theorem dX5_holdAudience_24 : decode cX5_holdAudience 24 = .ok (.dup, 1) := by decide +kernel
theorem dX5_holdAudience_25 : decode cX5_holdAudience 25 = .ok (.getfield 52, 3) := by decide +kernel
theorem dX5_holdAudience_28 : decode cX5_holdAudience 28 = .ok (.iconst 1, 1) := by decide +kernel
theorem dX5_holdAudience_29 : decode cX5_holdAudience 29 = .ok (.iadd, 1) := by decide +kernel
theorem dX5_holdAudience_30 : decode cX5_holdAudience 30 = .ok (.putfield 52, 3) := by decide +kernel
theorem dX5_holdAudience_33 : decode cX5_holdAudience 33 = .ok (.iload_n 2, 1) := by decide +kernel
theorem dX5_holdAudience_34 : decode cX5_holdAudience 34 = .ok (.ifCond .eq 13, 3) := by decide +kernel
theorem dX5_holdAudience_37 : decode cX5_holdAudience 37 = .ok (.aload_n 0, 1) := by decide +kernel
theorem dX5_holdAudience_38 : decode cX5_holdAudience 38 = .ok (.dup, 1) := by decide +kernel
theorem dX5_holdAudience_39 : decode cX5_holdAudience 39 = .ok (.getfield 55, 3) := by decide +kernel
theorem dX5_holdAudience_42 : decode cX5_holdAudience 42 = .ok (.iconst 1, 1) := by decide +kernel
theorem dX5_holdAudience_43 : decode cX5_holdAudience 43 = .ok (.iadd, 1) := by decide +kernel
theorem dX5_holdAudience_44 : decode cX5_holdAudience 44 = .ok (.putfield 55, 3) := by decide +kernel
theorem dX5_holdAudience_47 : decode cX5_holdAudience 47 = .ok (.iload_n 2, 1) := by decide +kernel
theorem dX5_holdAudience_48 : decode cX5_holdAudience 48 = .ok (.ireturn, 1) := by decide +kernel
theorem dX5_passYear_0 : decode cX5_passYear 0 = .ok (.iconst 0, 1) := by decide +kernel
theorem dX5_passYear_1 : decode cX5_passYear 1 = .ok (.istore_n 2, 1) := by decide +kernel
theorem dX5_passYear_2 : decode cX5_passYear 2 = .ok (.iload_n 2, 1) := by decide +kernel
theorem dX5_passYear_3 : decode cX5_passYear 3 = .ok (.aload_n 1, 1) := by decide +kernel
theorem dX5_passYear_4 : decode cX5_passYear 4 = .ok (.getfield 42, 3) := by decide +kernel
theorem dX5_passYear_7 : decode cX5_passYear 7 = .ok (.if_icmp .ge 99, 3) := by decide +kernel
theorem dX5_passYear_10 : decode cX5_passYear 10 = .ok (.aload_n 0, 1) := by decide +kernel
theorem dX5_passYear_11 : decode cX5_passYear 11 = .ok (.getfield 18, 3) := by decide +kernel
theorem dX5_passYear_14 : decode cX5_passYear 14 = .ok (.iload_n 2, 1) := by decide +kernel
theorem dX5_passYear_15 : decode cX5_passYear 15 = .ok (.aload_n 1, 1) := by decide +kernel
theorem dX5_passYear_16 : decode cX5_passYear 16 = .ok (.getfield 70, 3) := by decide +kernel
theorem dX5_passYear_19 : decode cX5_passYear 19 = .ok (.iload_n 2, 1) := by decide +kernel
theorem dX5_passYear_20 : decode cX5_passYear 20 = .ok (.iaload, 1) := by decide +kernel
theorem dX5_passYear_21 : decode cX5_passYear 21 = .ok (.aload_n 0, 1) := by decide +kernel
theorem dX5_passYear_22 : decode cX5_passYear 22 = .ok (.iload_n 2, 1) := by decide +kernel
theorem dX5_passYear_23 : decode cX5_passYear 23 = .ok (.invokevirtual 66, 3) := by decide +kernel
theorem dX5_passYear_26 : decode cX5_passYear 26 = .ok (.aload_n 0, 1) := by decide +kernel
theorem dX5_passYear_27 : decode cX5_passYear 27 = .ok (.getfield 18, 3) := by decide +kernel
theorem dX5_passYear_30 : decode cX5_passYear 30 = .ok (.iload_n 2, 1) := by decide +kernel
theorem dX5_passYear_31 : decode cX5_passYear 31 = .ok (.iaload, 1) := by decide +kernel
theorem dX5_passYear_32 : decode cX5_passYear 32 = .ok (.aload_n 0, 1) := by decide +kernel
theorem dX5_passYear_33 : decode cX5_passYear 33 = .ok (.getfield 49, 3) := by decide +kernel
theorem dX5_passYear_36 : decode cX5_passYear 36 = .ok (.invokestatic 83, 3) := by decide +kernel
theorem dX5_passYear_39 : decode cX5_passYear 39 = .ok (.iastore, 1) := by decide +kernel
theorem dX5_passYear_40 : decode cX5_passYear 40 = .ok (.aload_n 1, 1) := by decide +kernel
theorem dX5_passYear_41 : decode cX5_passYear 41 = .ok (.getfield 70, 3) := by decide +kernel
theorem dX5_passYear_44 : decode cX5_passYear 44 = .ok (.iload_n 2, 1) := by decide +kernel
theorem dX5_passYear_45 : decode cX5_passYear 45 = .ok (.iaload, 1) := by decide +kernel
theorem dX5_passYear_46 : decode cX5_passYear 46 = .ok (.iconst 2, 1) := by decide +kernel
theorem dX5_passYear_47 : decode cX5_passYear 47 = .ok (.if_icmp .ne 26, 3) := by decide +kernel
theorem dX5_passYear_50 : decode cX5_passYear 50 = .ok (.aload_n 0, 1) := by decide +kernel
theorem dX5_passYear_51 : decode cX5_passYear 51 = .ok (.iload_n 2, 1) := by decide +kernel
theorem dX5_passYear_52 : decode cX5_passYear 52 = .ok (.invokevirtual 66, 3) := by decide +kernel
theorem dX5_passYear_55 : decode cX5_passYear 55 = .ok (.ifCond .eq 18, 3) := by decide +kernel
theorem dX5_passYear_58 : decode cX5_passYear 58 = .ok (.aload_n 0, 1) := by decide +kernel
theorem dX5_passYear_59 : decode cX5_passYear 59 = .ok (.getfield 18, 3) := by decide +kernel
theorem dX5_passYear_62 : decode cX5_passYear 62 = .ok (.iload_n 2, 1) := by decide +kernel
theorem dX5_passYear_63 : decode cX5_passYear 63 = .ok (.iaload, 1) := by decide +kernel
theorem dX5_passYear_64 : decode cX5_passYear 64 = .ok (.bipush 20, 2) := by decide +kernel
theorem dX5_passYear_66 : decode cX5_passYear 66 = .ok (.if_icmp .lt 7, 3) := by decide +kernel
theorem dX5_passYear_69 : decode cX5_passYear 69 = .ok (.iconst 1, 1) := by decide +kernel
theorem dX5_passYear_70 : decode cX5_passYear 70 = .ok (.goto 4, 3) := by decide +kernel
theorem dX5_passYear_73 : decode cX5_passYear 73 = .ok (.iconst 0, 1) := by decide +kernel
theorem dX5_passYear_74 : decode cX5_passYear 74 = .ok (.istore_n 3, 1) := by decide +kernel
theorem dX5_passYear_75 : decode cX5_passYear 75 = .ok (.iload_n 3, 1) := by decide +kernel
theorem dX5_passYear_76 : decode cX5_passYear 76 = .ok (.ifCond .eq 24, 3) := by decide +kernel
theorem dX5_passYear_79 : decode cX5_passYear 79 = .ok (.aload_n 0, 1) := by decide +kernel
theorem dX5_passYear_80 : decode cX5_passYear 80 = .ok (.getfield 21, 3) := by decide +kernel
theorem dX5_passYear_83 : decode cX5_passYear 83 = .ok (.iload_n 2, 1) := by decide +kernel
theorem dX5_passYear_84 : decode cX5_passYear 84 = .ok (.iaload, 1) := by decide +kernel
theorem dX5_passYear_85 : decode cX5_passYear 85 = .ok (.ldc 87, 2) := by decide +kernel
theorem dX5_passYear_87 : decode cX5_passYear 87 = .ok (.if_icmp .ge 13, 3) := by decide +kernel
theorem dX5_passYear_90 : decode cX5_passYear 90 = .ok (.aload_n 0, 1) := by decide +kernel
theorem dX5_passYear_91 : decode cX5_passYear 91 = .ok (.getfield 21, 3) := by decide +kernel
theorem dX5_passYear_94 : decode cX5_passYear 94 = .ok (.iload_n 2, 1) := by decide +kernel
theorem dX5_passYear_95 : decode cX5_passYear 95 = .ok (.dup2, 1) := by decide +kernel
theorem dX5_passYear_96 : decode cX5_passYear 96 = .ok (.iaload, 1) := by decide +kernel
theorem dX5_passYear_97 : decode cX5_passYear 97 = .ok (.iconst 1, 1) := by decide +kernel
theorem dX5_passYear_98 : decode cX5_passYear 98 = .ok (.iadd, 1) := by decide +kernel
theorem dX5_passYear_99 : decode cX5_passYear 99 = .ok (.iastore, 1) := by decide +kernel
theorem dX5_passYear_100 : decode cX5_passYear 100 = .ok (.iinc 2 1, 3) := by decide +kernel
theorem dX5_passYear_103 : decode cX5_passYear 103 = .ok (.goto (-101), 3) := by decide +kernel
theorem dX5_passYear_106 : decode cX5_passYear 106 = .ok (.aload_n 0, 1) := by decide +kernel
theorem dX5_passYear_107 : decode cX5_passYear 107 = .ok (.dup, 1) := by decide +kernel
theorem dX5_passYear_108 : decode cX5_passYear 108 = .ok (.getfield 49, 3) := by decide +kernel
theorem dX5_passYear_111 : decode cX5_passYear 111 = .ok (.iconst 1, 1) := by decide +kernel
theorem dX5_passYear_112 : decode cX5_passYear 112 = .ok (.iadd, 1) := by decide +kernel
theorem dX5_passYear_113 : decode cX5_passYear 113 = .ok (.putfield 49, 3) := by decide +kernel
theorem dX5_passYear_116 : decode cX5_passYear 116 = .ok (.return_, 1) := by decide +kernel
theorem dX5_warmthBehind_0 : decode cX5_warmthBehind 0 = .ok (.aload_n 0, 1) := by decide +kernel
theorem dX5_warmthBehind_1 : decode cX5_warmthBehind 1 = .ok (.getfield 18, 3) := by decide +kernel
theorem dX5_warmthBehind_4 : decode cX5_warmthBehind 4 = .ok (.iload_n 2, 1) := by decide +kernel
theorem dX5_warmthBehind_5 : decode cX5_warmthBehind 5 = .ok (.iaload, 1) := by decide +kernel
theorem dX5_warmthBehind_6 : decode cX5_warmthBehind 6 = .ok (.istore 4, 2) := by decide +kernel
theorem dX5_warmthBehind_8 : decode cX5_warmthBehind 8 = .ok (.iconst 0, 1) := by decide +kernel
theorem dX5_warmthBehind_9 : decode cX5_warmthBehind 9 = .ok (.istore 5, 2) := by decide +kernel
theorem dX5_warmthBehind_11 : decode cX5_warmthBehind 11 = .ok (.iload 5, 2) := by decide +kernel
theorem dX5_warmthBehind_13 : decode cX5_warmthBehind 13 = .ok (.iload_n 3, 1) := by decide +kernel
theorem dX5_warmthBehind_14 : decode cX5_warmthBehind 14 = .ok (.if_icmp .ge 34, 3) := by decide +kernel
theorem dX5_warmthBehind_17 : decode cX5_warmthBehind 17 = .ok (.aload_n 1, 1) := by decide +kernel
theorem dX5_warmthBehind_18 : decode cX5_warmthBehind 18 = .ok (.getfield 70, 3) := by decide +kernel
theorem dX5_warmthBehind_21 : decode cX5_warmthBehind 21 = .ok (.iload_n 2, 1) := by decide +kernel
theorem dX5_warmthBehind_22 : decode cX5_warmthBehind 22 = .ok (.iaload, 1) := by decide +kernel
theorem dX5_warmthBehind_23 : decode cX5_warmthBehind 23 = .ok (.aload_n 0, 1) := by decide +kernel
theorem dX5_warmthBehind_24 : decode cX5_warmthBehind 24 = .ok (.iload_n 2, 1) := by decide +kernel
theorem dX5_warmthBehind_25 : decode cX5_warmthBehind 25 = .ok (.invokevirtual 66, 3) := by decide +kernel
theorem dX5_warmthBehind_28 : decode cX5_warmthBehind 28 = .ok (.iload 4, 2) := by decide +kernel
theorem dX5_warmthBehind_30 : decode cX5_warmthBehind 30 = .ok (.aload_n 0, 1) := by decide +kernel
theorem dX5_warmthBehind_31 : decode cX5_warmthBehind 31 = .ok (.getfield 49, 3) := by decide +kernel
theorem dX5_warmthBehind_34 : decode cX5_warmthBehind 34 = .ok (.iload 5, 2) := by decide +kernel
theorem dX5_warmthBehind_36 : decode cX5_warmthBehind 36 = .ok (.iadd, 1) := by decide +kernel
theorem dX5_warmthBehind_37 : decode cX5_warmthBehind 37 = .ok (.invokestatic 83, 3) := by decide +kernel
theorem dX5_warmthBehind_40 : decode cX5_warmthBehind 40 = .ok (.istore 4, 2) := by decide +kernel
theorem dX5_warmthBehind_42 : decode cX5_warmthBehind 42 = .ok (.iinc 5 1, 3) := by decide +kernel
theorem dX5_warmthBehind_45 : decode cX5_warmthBehind 45 = .ok (.goto (-34), 3) := by decide +kernel
theorem dX5_warmthBehind_48 : decode cX5_warmthBehind 48 = .ok (.iload 4, 2) := by decide +kernel
theorem dX5_warmthBehind_50 : decode cX5_warmthBehind 50 = .ok (.ireturn, 1) := by decide +kernel
theorem dX5_yearsUntilWarm_0 : decode cX5_yearsUntilWarm 0 = .ok (.aload_n 0, 1) := by decide +kernel
theorem dX5_yearsUntilWarm_1 : decode cX5_yearsUntilWarm 1 = .ok (.getfield 18, 3) := by decide +kernel
theorem dX5_yearsUntilWarm_4 : decode cX5_yearsUntilWarm 4 = .ok (.iload_n 2, 1) := by decide +kernel
theorem dX5_yearsUntilWarm_5 : decode cX5_yearsUntilWarm 5 = .ok (.iaload, 1) := by decide +kernel
theorem dX5_yearsUntilWarm_6 : decode cX5_yearsUntilWarm 6 = .ok (.istore 4, 2) := by decide +kernel
theorem dX5_yearsUntilWarm_8 : decode cX5_yearsUntilWarm 8 = .ok (.iconst 0, 1) := by decide +kernel
theorem dX5_yearsUntilWarm_9 : decode cX5_yearsUntilWarm 9 = .ok (.istore 5, 2) := by decide +kernel
theorem dX5_yearsUntilWarm_11 : decode cX5_yearsUntilWarm 11 = .ok (.iload 5, 2) := by decide +kernel
theorem dX5_yearsUntilWarm_13 : decode cX5_yearsUntilWarm 13 = .ok (.sipush 200, 3) := by decide +kernel
theorem dX5_yearsUntilWarm_16 : decode cX5_yearsUntilWarm 16 = .ok (.if_icmp .gt 43, 3) := by decide +kernel
theorem dX5_yearsUntilWarm_19 : decode cX5_yearsUntilWarm 19 = .ok (.iload 4, 2) := by decide +kernel
theorem dX5_yearsUntilWarm_21 : decode cX5_yearsUntilWarm 21 = .ok (.iload_n 3, 1) := by decide +kernel
theorem dX5_yearsUntilWarm_22 : decode cX5_yearsUntilWarm 22 = .ok (.if_icmp .lt 6, 3) := by decide +kernel
theorem dX5_yearsUntilWarm_25 : decode cX5_yearsUntilWarm 25 = .ok (.iload 5, 2) := by decide +kernel
theorem dX5_yearsUntilWarm_27 : decode cX5_yearsUntilWarm 27 = .ok (.ireturn, 1) := by decide +kernel
theorem dX5_yearsUntilWarm_28 : decode cX5_yearsUntilWarm 28 = .ok (.aload_n 1, 1) := by decide +kernel
theorem dX5_yearsUntilWarm_29 : decode cX5_yearsUntilWarm 29 = .ok (.getfield 70, 3) := by decide +kernel
theorem dX5_yearsUntilWarm_32 : decode cX5_yearsUntilWarm 32 = .ok (.iload_n 2, 1) := by decide +kernel
theorem dX5_yearsUntilWarm_33 : decode cX5_yearsUntilWarm 33 = .ok (.iaload, 1) := by decide +kernel
theorem dX5_yearsUntilWarm_34 : decode cX5_yearsUntilWarm 34 = .ok (.aload_n 0, 1) := by decide +kernel
theorem dX5_yearsUntilWarm_35 : decode cX5_yearsUntilWarm 35 = .ok (.iload_n 2, 1) := by decide +kernel
theorem dX5_yearsUntilWarm_36 : decode cX5_yearsUntilWarm 36 = .ok (.invokevirtual 66, 3) := by decide +kernel
theorem dX5_yearsUntilWarm_39 : decode cX5_yearsUntilWarm 39 = .ok (.iload 4, 2) := by decide +kernel
theorem dX5_yearsUntilWarm_41 : decode cX5_yearsUntilWarm 41 = .ok (.aload_n 0, 1) := by decide +kernel
theorem dX5_yearsUntilWarm_42 : decode cX5_yearsUntilWarm 42 = .ok (.getfield 49, 3) := by decide +kernel
theorem dX5_yearsUntilWarm_45 : decode cX5_yearsUntilWarm 45 = .ok (.iload 5, 2) := by decide +kernel
theorem dX5_yearsUntilWarm_47 : decode cX5_yearsUntilWarm 47 = .ok (.iadd, 1) := by decide +kernel
theorem dX5_yearsUntilWarm_48 : decode cX5_yearsUntilWarm 48 = .ok (.invokestatic 83, 3) := by decide +kernel
theorem dX5_yearsUntilWarm_51 : decode cX5_yearsUntilWarm 51 = .ok (.istore 4, 2) := by decide +kernel
theorem dX5_yearsUntilWarm_53 : decode cX5_yearsUntilWarm 53 = .ok (.iinc 5 1, 3) := by decide +kernel
theorem dX5_yearsUntilWarm_56 : decode cX5_yearsUntilWarm 56 = .ok (.goto (-45), 3) := by decide +kernel
theorem dX5_yearsUntilWarm_59 : decode cX5_yearsUntilWarm 59 = .ok (.iconst (-1), 1) := by decide +kernel
theorem dX5_yearsUntilWarm_60 : decode cX5_yearsUntilWarm 60 = .ok (.ireturn, 1) := by decide +kernel
theorem dX5_warmthNext_0 : decode cX5_warmthNext 0 = .ok (.iload_n 1, 1) := by decide +kernel
theorem dX5_warmthNext_1 : decode cX5_warmthNext 1 = .ok (.ifCond .ne 11, 3) := by decide +kernel
theorem dX5_warmthNext_4 : decode cX5_warmthNext 4 = .ok (.iload_n 2, 1) := by decide +kernel
theorem dX5_warmthNext_5 : decode cX5_warmthNext 5 = .ok (.iconst 1, 1) := by decide +kernel
theorem dX5_warmthNext_6 : decode cX5_warmthNext 6 = .ok (.isub, 1) := by decide +kernel
theorem dX5_warmthNext_7 : decode cX5_warmthNext 7 = .ok (.iconst 0, 1) := by decide +kernel
theorem dX5_warmthNext_8 : decode cX5_warmthNext 8 = .ok (.invokestatic 88, 3) := by decide +kernel
theorem dX5_warmthNext_11 : decode cX5_warmthNext 11 = .ok (.ireturn, 1) := by decide +kernel
theorem dX5_warmthNext_12 : decode cX5_warmthNext 12 = .ok (.iconst 0, 1) := by decide +kernel
theorem dX5_warmthNext_13 : decode cX5_warmthNext 13 = .ok (.istore 4, 2) := by decide +kernel
theorem dX5_warmthNext_15 : decode cX5_warmthNext 15 = .ok (.iload_n 0, 1) := by decide +kernel
theorem dX5_warmthNext_16 : decode cX5_warmthNext 16 = .ok (.tableswitch 60 0 3 #[32, 60, 38, 44], 32) := by decide +kernel
theorem dX5_warmthNext_48 : decode cX5_warmthNext 48 = .ok (.iconst 1, 1) := by decide +kernel
theorem dX5_warmthNext_49 : decode cX5_warmthNext 49 = .ok (.istore 4, 2) := by decide +kernel
theorem dX5_warmthNext_51 : decode cX5_warmthNext 51 = .ok (.goto 25, 3) := by decide +kernel
theorem dX5_warmthNext_54 : decode cX5_warmthNext 54 = .ok (.iconst 3, 1) := by decide +kernel
theorem dX5_warmthNext_55 : decode cX5_warmthNext 55 = .ok (.istore 4, 2) := by decide +kernel
theorem dX5_warmthNext_57 : decode cX5_warmthNext 57 = .ok (.goto 19, 3) := by decide +kernel
theorem dX5_warmthNext_60 : decode cX5_warmthNext 60 = .ok (.iload_n 3, 1) := by decide +kernel
theorem dX5_warmthNext_61 : decode cX5_warmthNext 61 = .ok (.iconst 2, 1) := by decide +kernel
theorem dX5_warmthNext_62 : decode cX5_warmthNext 62 = .ok (.irem, 1) := by decide +kernel
theorem dX5_warmthNext_63 : decode cX5_warmthNext 63 = .ok (.ifCond .ne 7, 3) := by decide +kernel
theorem dX5_warmthNext_66 : decode cX5_warmthNext 66 = .ok (.iconst 2, 1) := by decide +kernel
theorem dX5_warmthNext_67 : decode cX5_warmthNext 67 = .ok (.goto 4, 3) := by decide +kernel
theorem dX5_warmthNext_70 : decode cX5_warmthNext 70 = .ok (.iconst 0, 1) := by decide +kernel
theorem dX5_warmthNext_71 : decode cX5_warmthNext 71 = .ok (.istore 4, 2) := by decide +kernel
theorem dX5_warmthNext_73 : decode cX5_warmthNext 73 = .ok (.goto 3, 3) := by decide +kernel
theorem dX5_warmthNext_76 : decode cX5_warmthNext 76 = .ok (.iload_n 2, 1) := by decide +kernel
theorem dX5_warmthNext_77 : decode cX5_warmthNext 77 = .ok (.iload 4, 2) := by decide +kernel
theorem dX5_warmthNext_79 : decode cX5_warmthNext 79 = .ok (.iadd, 1) := by decide +kernel
theorem dX5_warmthNext_80 : decode cX5_warmthNext 80 = .ok (.bipush 99, 2) := by decide +kernel
theorem dX5_warmthNext_82 : decode cX5_warmthNext 82 = .ok (.invokestatic 94, 3) := by decide +kernel
theorem dX5_warmthNext_85 : decode cX5_warmthNext 85 = .ok (.ireturn, 1) := by decide +kernel
theorem dX6_within_0 : decode cX6_within 0 = .ok (.iconst 0, 1) := by decide +kernel
theorem dX6_within_1 : decode cX6_within 1 = .ok (.istore_n 3, 1) := by decide +kernel
theorem dX6_within_2 : decode cX6_within 2 = .ok (.iconst 0, 1) := by decide +kernel
theorem dX6_within_3 : decode cX6_within 3 = .ok (.istore 4, 2) := by decide +kernel
theorem dX6_within_5 : decode cX6_within 5 = .ok (.iload 4, 2) := by decide +kernel
theorem dX6_within_7 : decode cX6_within 7 = .ok (.aload_n 0, 1) := by decide +kernel
theorem dX6_within_8 : decode cX6_within 8 = .ok (.getfield 9, 3) := by decide +kernel
theorem dX6_within_11 : decode cX6_within 11 = .ok (.if_icmp .ge 35, 3) := by decide +kernel
theorem dX6_within_14 : decode cX6_within 14 = .ok (.aload_n 1, 1) := by decide +kernel
theorem dX6_within_15 : decode cX6_within 15 = .ok (.getfield 15, 3) := by decide +kernel
theorem dX6_within_18 : decode cX6_within 18 = .ok (.iload 4, 2) := by decide +kernel
theorem dX6_within_20 : decode cX6_within 20 = .ok (.iaload, 1) := by decide +kernel
theorem dX6_within_21 : decode cX6_within 21 = .ok (.aload_n 0, 1) := by decide +kernel
theorem dX6_within_22 : decode cX6_within 22 = .ok (.getfield 21, 3) := by decide +kernel
theorem dX6_within_25 : decode cX6_within 25 = .ok (.ixor, 1) := by decide +kernel
theorem dX6_within_26 : decode cX6_within 26 = .ok (.invokestatic 24, 3) := by decide +kernel
theorem dX6_within_29 : decode cX6_within 29 = .ok (.iload_n 2, 1) := by decide +kernel
theorem dX6_within_30 : decode cX6_within 30 = .ok (.if_icmp .gt 10, 3) := by decide +kernel
theorem dX6_within_33 : decode cX6_within 33 = .ok (.iload_n 3, 1) := by decide +kernel
theorem dX6_within_34 : decode cX6_within 34 = .ok (.iconst 1, 1) := by decide +kernel
theorem dX6_within_35 : decode cX6_within 35 = .ok (.iload 4, 2) := by decide +kernel
theorem dX6_within_37 : decode cX6_within 37 = .ok (.ishl, 1) := by decide +kernel
theorem dX6_within_38 : decode cX6_within 38 = .ok (.ior, 1) := by decide +kernel
theorem dX6_within_39 : decode cX6_within 39 = .ok (.istore_n 3, 1) := by decide +kernel
theorem dX6_within_40 : decode cX6_within 40 = .ok (.iinc 4 1, 3) := by decide +kernel
theorem dX6_within_43 : decode cX6_within 43 = .ok (.goto (-38), 3) := by decide +kernel
theorem dX6_within_46 : decode cX6_within 46 = .ok (.iload_n 3, 1) := by decide +kernel
theorem dX6_within_47 : decode cX6_within 47 = .ok (.ireturn, 1) := by decide +kernel
theorem dX6_fitting_0 : decode cX6_fitting 0 = .ok (.iconst 0, 1) := by decide +kernel
theorem dX6_fitting_1 : decode cX6_fitting 1 = .ok (.istore_n 3, 1) := by decide +kernel
theorem dX6_fitting_2 : decode cX6_fitting 2 = .ok (.iconst 0, 1) := by decide +kernel
theorem dX6_fitting_3 : decode cX6_fitting 3 = .ok (.istore 4, 2) := by decide +kernel
theorem dX6_fitting_5 : decode cX6_fitting 5 = .ok (.iload 4, 2) := by decide +kernel
theorem dX6_fitting_7 : decode cX6_fitting 7 = .ok (.aload_n 0, 1) := by decide +kernel
theorem dX6_fitting_8 : decode cX6_fitting 8 = .ok (.getfield 9, 3) := by decide +kernel
theorem dX6_fitting_11 : decode cX6_fitting 11 = .ok (.if_icmp .ge 33, 3) := by decide +kernel
theorem dX6_fitting_14 : decode cX6_fitting 14 = .ok (.aload_n 1, 1) := by decide +kernel
theorem dX6_fitting_15 : decode cX6_fitting 15 = .ok (.getfield 15, 3) := by decide +kernel
theorem dX6_fitting_18 : decode cX6_fitting 18 = .ok (.iload 4, 2) := by decide +kernel
theorem dX6_fitting_20 : decode cX6_fitting 20 = .ok (.iaload, 1) := by decide +kernel
theorem dX6_fitting_21 : decode cX6_fitting 21 = .ok (.aload_n 0, 1) := by decide +kernel
theorem dX6_fitting_22 : decode cX6_fitting 22 = .ok (.getfield 21, 3) := by decide +kernel
theorem dX6_fitting_25 : decode cX6_fitting 25 = .ok (.ixor, 1) := by decide +kernel
theorem dX6_fitting_26 : decode cX6_fitting 26 = .ok (.iload_n 2, 1) := by decide +kernel
theorem dX6_fitting_27 : decode cX6_fitting 27 = .ok (.iand, 1) := by decide +kernel
theorem dX6_fitting_28 : decode cX6_fitting 28 = .ok (.ifCond .ne 10, 3) := by decide +kernel
theorem dX6_fitting_31 : decode cX6_fitting 31 = .ok (.iload_n 3, 1) := by decide +kernel
theorem dX6_fitting_32 : decode cX6_fitting 32 = .ok (.iconst 1, 1) := by decide +kernel
theorem dX6_fitting_33 : decode cX6_fitting 33 = .ok (.iload 4, 2) := by decide +kernel
theorem dX6_fitting_35 : decode cX6_fitting 35 = .ok (.ishl, 1) := by decide +kernel
theorem dX6_fitting_36 : decode cX6_fitting 36 = .ok (.ior, 1) := by decide +kernel
theorem dX6_fitting_37 : decode cX6_fitting 37 = .ok (.istore_n 3, 1) := by decide +kernel
theorem dX6_fitting_38 : decode cX6_fitting 38 = .ok (.iinc 4 1, 3) := by decide +kernel
theorem dX6_fitting_41 : decode cX6_fitting 41 = .ok (.goto (-36), 3) := by decide +kernel
theorem dX6_fitting_44 : decode cX6_fitting 44 = .ok (.iload_n 3, 1) := by decide +kernel
theorem dX6_fitting_45 : decode cX6_fitting 45 = .ok (.ireturn, 1) := by decide +kernel
theorem dX6_parting_0 : decode cX6_parting 0 = .ok (.iload_n 2, 1) := by decide +kernel
theorem dX6_parting_1 : decode cX6_parting 1 = .ok (.invokestatic 24, 3) := by decide +kernel
theorem dX6_parting_4 : decode cX6_parting 4 = .ok (.istore_n 3, 1) := by decide +kernel
theorem dX6_parting_5 : decode cX6_parting 5 = .ok (.iconst (-1), 1) := by decide +kernel
theorem dX6_parting_6 : decode cX6_parting 6 = .ok (.istore 4, 2) := by decide +kernel
theorem dX6_parting_8 : decode cX6_parting 8 = .ok (.iload_n 3, 1) := by decide +kernel
theorem dX6_parting_9 : decode cX6_parting 9 = .ok (.istore 5, 2) := by decide +kernel
theorem dX6_parting_11 : decode cX6_parting 11 = .ok (.iconst 0, 1) := by decide +kernel
theorem dX6_parting_12 : decode cX6_parting 12 = .ok (.istore 6, 2) := by decide +kernel
theorem dX6_parting_14 : decode cX6_parting 14 = .ok (.iload 6, 2) := by decide +kernel
theorem dX6_parting_16 : decode cX6_parting 16 = .ok (.bipush 6, 2) := by decide +kernel
theorem dX6_parting_18 : decode cX6_parting 18 = .ok (.if_icmp .ge 78, 3) := by decide +kernel
theorem dX6_parting_21 : decode cX6_parting 21 = .ok (.iconst 0, 1) := by decide +kernel
theorem dX6_parting_22 : decode cX6_parting 22 = .ok (.istore 7, 2) := by decide +kernel
theorem dX6_parting_24 : decode cX6_parting 24 = .ok (.iconst 0, 1) := by decide +kernel
theorem dX6_parting_25 : decode cX6_parting 25 = .ok (.istore 8, 2) := by decide +kernel
theorem dX6_parting_27 : decode cX6_parting 27 = .ok (.iload 8, 2) := by decide +kernel
theorem dX6_parting_29 : decode cX6_parting 29 = .ok (.aload_n 0, 1) := by decide +kernel
theorem dX6_parting_30 : decode cX6_parting 30 = .ok (.getfield 9, 3) := by decide +kernel
theorem dX6_parting_33 : decode cX6_parting 33 = .ok (.if_icmp .ge 31, 3) := by decide +kernel
theorem dX6_parting_36 : decode cX6_parting 36 = .ok (.iload 7, 2) := by decide +kernel
theorem dX6_parting_38 : decode cX6_parting 38 = .ok (.iload_n 2, 1) := by decide +kernel
theorem dX6_parting_39 : decode cX6_parting 39 = .ok (.iload 8, 2) := by decide +kernel
theorem dX6_parting_41 : decode cX6_parting 41 = .ok (.ishr, 1) := by decide +kernel
theorem dX6_parting_42 : decode cX6_parting 42 = .ok (.aload_n 1, 1) := by decide +kernel
theorem dX6_parting_43 : decode cX6_parting 43 = .ok (.getfield 15, 3) := by decide +kernel
theorem dX6_parting_46 : decode cX6_parting 46 = .ok (.iload 8, 2) := by decide +kernel
theorem dX6_parting_48 : decode cX6_parting 48 = .ok (.iaload, 1) := by decide +kernel
theorem dX6_parting_49 : decode cX6_parting 49 = .ok (.iload 6, 2) := by decide +kernel
theorem dX6_parting_51 : decode cX6_parting 51 = .ok (.ishr, 1) := by decide +kernel
theorem dX6_parting_52 : decode cX6_parting 52 = .ok (.iand, 1) := by decide +kernel
theorem dX6_parting_53 : decode cX6_parting 53 = .ok (.iconst 1, 1) := by decide +kernel
theorem dX6_parting_54 : decode cX6_parting 54 = .ok (.iand, 1) := by decide +kernel
theorem dX6_parting_55 : decode cX6_parting 55 = .ok (.iadd, 1) := by decide +kernel
theorem dX6_parting_56 : decode cX6_parting 56 = .ok (.istore 7, 2) := by decide +kernel
theorem dX6_parting_58 : decode cX6_parting 58 = .ok (.iinc 8 1, 3) := by decide +kernel
theorem dX6_parting_61 : decode cX6_parting 61 = .ok (.goto (-34), 3) := by decide +kernel
theorem dX6_parting_64 : decode cX6_parting 64 = .ok (.iload 7, 2) := by decide +kernel
theorem dX6_parting_66 : decode cX6_parting 66 = .ok (.iload_n 3, 1) := by decide +kernel
theorem dX6_parting_67 : decode cX6_parting 67 = .ok (.iload 7, 2) := by decide +kernel
theorem dX6_parting_69 : decode cX6_parting 69 = .ok (.isub, 1) := by decide +kernel
theorem dX6_parting_70 : decode cX6_parting 70 = .ok (.invokestatic 30, 3) := by decide +kernel
theorem dX6_parting_73 : decode cX6_parting 73 = .ok (.istore 8, 2) := by decide +kernel
theorem dX6_parting_75 : decode cX6_parting 75 = .ok (.iload 8, 2) := by decide +kernel
theorem dX6_parting_77 : decode cX6_parting 77 = .ok (.iload 5, 2) := by decide +kernel
theorem dX6_parting_79 : decode cX6_parting 79 = .ok (.if_icmp .ge 11, 3) := by decide +kernel
theorem dX6_parting_82 : decode cX6_parting 82 = .ok (.iload 6, 2) := by decide +kernel
theorem dX6_parting_84 : decode cX6_parting 84 = .ok (.istore 4, 2) := by decide +kernel
theorem dX6_parting_86 : decode cX6_parting 86 = .ok (.iload 8, 2) := by decide +kernel
theorem dX6_parting_88 : decode cX6_parting 88 = .ok (.istore 5, 2) := by decide +kernel
theorem dX6_parting_90 : decode cX6_parting 90 = .ok (.iinc 6 1, 3) := by decide +kernel
theorem dX6_parting_93 : decode cX6_parting 93 = .ok (.goto (-79), 3) := by decide +kernel
theorem dX6_parting_96 : decode cX6_parting 96 = .ok (.iload 4, 2) := by decide +kernel
theorem dX6_parting_98 : decode cX6_parting 98 = .ok (.ireturn, 1) := by decide +kernel
theorem dX6_telling_0 : decode cX6_telling 0 = .ok (.bipush 63, 2) := by decide +kernel
theorem dX6_telling_2 : decode cX6_telling 2 = .ok (.istore_n 2, 1) := by decide +kernel
theorem dX6_telling_3 : decode cX6_telling 3 = .ok (.iconst 0, 1) := by decide +kernel
theorem dX6_telling_4 : decode cX6_telling 4 = .ok (.istore_n 3, 1) := by decide +kernel
theorem dX6_telling_5 : decode cX6_telling 5 = .ok (.iload_n 3, 1) := by decide +kernel
theorem dX6_telling_6 : decode cX6_telling 6 = .ok (.bipush 63, 2) := by decide +kernel
theorem dX6_telling_8 : decode cX6_telling 8 = .ok (.if_icmp .ge 31, 3) := by decide +kernel
theorem dX6_telling_11 : decode cX6_telling 11 = .ok (.iload_n 3, 1) := by decide +kernel
theorem dX6_telling_12 : decode cX6_telling 12 = .ok (.invokestatic 24, 3) := by decide +kernel
theorem dX6_telling_15 : decode cX6_telling 15 = .ok (.iload_n 2, 1) := by decide +kernel
theorem dX6_telling_16 : decode cX6_telling 16 = .ok (.invokestatic 24, 3) := by decide +kernel
theorem dX6_telling_19 : decode cX6_telling 19 = .ok (.if_icmp .ge 14, 3) := by decide +kernel
theorem dX6_telling_22 : decode cX6_telling 22 = .ok (.aload_n 0, 1) := by decide +kernel
theorem dX6_telling_23 : decode cX6_telling 23 = .ok (.aload_n 1, 1) := by decide +kernel
theorem dX6_telling_24 : decode cX6_telling 24 = .ok (.iload_n 3, 1) := by decide +kernel
theorem dX6_telling_25 : decode cX6_telling 25 = .ok (.invokestatic 36, 3) := by decide +kernel
theorem dX6_telling_28 : decode cX6_telling 28 = .ok (.ifCond .eq 5, 3) := by decide +kernel
theorem dX6_telling_31 : decode cX6_telling 31 = .ok (.iload_n 3, 1) := by decide +kernel
theorem dX6_telling_32 : decode cX6_telling 32 = .ok (.istore_n 2, 1) := by decide +kernel
theorem dX6_telling_33 : decode cX6_telling 33 = .ok (.iinc 3 1, 3) := by decide +kernel
theorem dX6_telling_36 : decode cX6_telling 36 = .ok (.goto (-31), 3) := by decide +kernel
theorem dX6_telling_39 : decode cX6_telling 39 = .ok (.iload_n 2, 1) := by decide +kernel
theorem dX6_telling_40 : decode cX6_telling 40 = .ok (.ireturn, 1) := by decide +kernel
theorem dX6_tells_0 : decode cX6_tells 0 = .ok (.iconst 0, 1) := by decide +kernel
theorem dX6_tells_1 : decode cX6_tells 1 = .ok (.istore_n 3, 1) := by decide +kernel
theorem dX6_tells_2 : decode cX6_tells 2 = .ok (.iload_n 3, 1) := by decide +kernel
theorem dX6_tells_3 : decode cX6_tells 3 = .ok (.aload_n 0, 1) := by decide +kernel
theorem dX6_tells_4 : decode cX6_tells 4 = .ok (.getfield 9, 3) := by decide +kernel
theorem dX6_tells_7 : decode cX6_tells 7 = .ok (.if_icmp .ge 59, 3) := by decide +kernel
theorem dX6_tells_10 : decode cX6_tells 10 = .ok (.iload_n 3, 1) := by decide +kernel
theorem dX6_tells_11 : decode cX6_tells 11 = .ok (.iconst 1, 1) := by decide +kernel
theorem dX6_tells_12 : decode cX6_tells 12 = .ok (.iadd, 1) := by decide +kernel
theorem dX6_tells_13 : decode cX6_tells 13 = .ok (.istore 4, 2) := by decide +kernel
theorem dX6_tells_15 : decode cX6_tells 15 = .ok (.iload 4, 2) := by decide +kernel
theorem dX6_tells_17 : decode cX6_tells 17 = .ok (.aload_n 0, 1) := by decide +kernel
theorem dX6_tells_18 : decode cX6_tells 18 = .ok (.getfield 9, 3) := by decide +kernel
theorem dX6_tells_21 : decode cX6_tells 21 = .ok (.if_icmp .ge 39, 3) := by decide +kernel
theorem dX6_tells_24 : decode cX6_tells 24 = .ok (.aload_n 1, 1) := by decide +kernel
theorem dX6_tells_25 : decode cX6_tells 25 = .ok (.getfield 15, 3) := by decide +kernel
theorem dX6_tells_28 : decode cX6_tells 28 = .ok (.iload_n 3, 1) := by decide +kernel
theorem dX6_tells_29 : decode cX6_tells 29 = .ok (.iaload, 1) := by decide +kernel
theorem dX6_tells_30 : decode cX6_tells 30 = .ok (.aload_n 1, 1) := by decide +kernel
theorem dX6_tells_31 : decode cX6_tells 31 = .ok (.getfield 15, 3) := by decide +kernel
theorem dX6_tells_34 : decode cX6_tells 34 = .ok (.iload 4, 2) := by decide +kernel
theorem dX6_tells_36 : decode cX6_tells 36 = .ok (.iaload, 1) := by decide +kernel
theorem dX6_tells_37 : decode cX6_tells 37 = .ok (.ixor, 1) := by decide +kernel
theorem dX6_tells_38 : decode cX6_tells 38 = .ok (.istore 5, 2) := by decide +kernel
theorem dX6_tells_40 : decode cX6_tells 40 = .ok (.iload 5, 2) := by decide +kernel
theorem dX6_tells_42 : decode cX6_tells 42 = .ok (.ifCond .eq 12, 3) := by decide +kernel
theorem dX6_tells_45 : decode cX6_tells 45 = .ok (.iload 5, 2) := by decide +kernel
theorem dX6_tells_47 : decode cX6_tells 47 = .ok (.iload_n 2, 1) := by decide +kernel
theorem dX6_tells_48 : decode cX6_tells 48 = .ok (.iand, 1) := by decide +kernel
theorem dX6_tells_49 : decode cX6_tells 49 = .ok (.ifCond .ne 5, 3) := by decide +kernel
theorem dX6_tells_52 : decode cX6_tells 52 = .ok (.iconst 0, 1) := by decide +kernel
theorem dX6_tells_53 : decode cX6_tells 53 = .ok (.ireturn, 1) := by decide +kernel
theorem dX6_tells_54 : decode cX6_tells 54 = .ok (.iinc 4 1, 3) := by decide +kernel
theorem dX6_tells_57 : decode cX6_tells 57 = .ok (.goto (-42), 3) := by decide +kernel
theorem dX6_tells_60 : decode cX6_tells 60 = .ok (.iinc 3 1, 3) := by decide +kernel
theorem dX6_tells_63 : decode cX6_tells 63 = .ok (.goto (-61), 3) := by decide +kernel
theorem dX6_tells_66 : decode cX6_tells 66 = .ok (.iconst 1, 1) := by decide +kernel
theorem dX6_tells_67 : decode cX6_tells 67 = .ok (.ireturn, 1) := by decide +kernel
theorem dX7_init_0 : decode cX7_init 0 = .ok (.aload_n 0, 1) := by decide +kernel
theorem dX7_init_1 : decode cX7_init 1 = .ok (.invokespecial 3, 3) := by decide +kernel
theorem dX7_init_4 : decode cX7_init 4 = .ok (.aload_n 0, 1) := by decide +kernel
theorem dX7_init_5 : decode cX7_init 5 = .ok (.sipush 240, 3) := by decide +kernel
theorem dX7_init_8 : decode cX7_init 8 = .ok (.newarray .int, 2) := by decide +kernel
theorem dX7_init_10 : decode cX7_init 10 = .ok (.putfield 9, 3) := by decide +kernel
theorem dX7_init_13 : decode cX7_init 13 = .ok (.aload_n 0, 1) := by decide +kernel
theorem dX7_init_14 : decode cX7_init 14 = .ok (.iconst (-1), 1) := by decide +kernel
theorem dX7_init_15 : decode cX7_init 15 = .ok (.putfield 15, 3) := by decide +kernel
theorem dX7_init_18 : decode cX7_init 18 = .ok (.return_, 1) := by decide +kernel
theorem dX7_readInto_0 : decode cX7_readInto 0 = .ok (.aload_n 0, 1) := by decide +kernel
theorem dX7_readInto_1 : decode cX7_readInto 1 = .ok (.iconst 0, 1) := by decide +kernel
theorem dX7_readInto_2 : decode cX7_readInto 2 = .ok (.putfield 19, 3) := by decide +kernel
theorem dX7_readInto_5 : decode cX7_readInto 5 = .ok (.aload_n 0, 1) := by decide +kernel
theorem dX7_readInto_6 : decode cX7_readInto 6 = .ok (.iconst 0, 1) := by decide +kernel
theorem dX7_readInto_7 : decode cX7_readInto 7 = .ok (.putfield 22, 3) := by decide +kernel
theorem dX7_readInto_10 : decode cX7_readInto 10 = .ok (.aload_n 0, 1) := by decide +kernel
theorem dX7_readInto_11 : decode cX7_readInto 11 = .ok (.iconst (-1), 1) := by decide +kernel
theorem dX7_readInto_12 : decode cX7_readInto 12 = .ok (.putfield 15, 3) := by decide +kernel
theorem dX7_readInto_15 : decode cX7_readInto 15 = .ok (.aload_n 1, 1) := by decide +kernel
theorem dX7_readInto_16 : decode cX7_readInto 16 = .ok (.invokevirtual 25, 3) := by decide +kernel
theorem dX7_readInto_19 : decode cX7_readInto 19 = .ok (.aload_n 0, 1) := by decide +kernel
theorem dX7_readInto_20 : decode cX7_readInto 20 = .ok (.invokevirtual 30, 3) := by decide +kernel
theorem dX7_readInto_23 : decode cX7_readInto 23 = .ok (.iconst 0, 1) := by decide +kernel
theorem dX7_readInto_24 : decode cX7_readInto 24 = .ok (.istore_n 2, 1) := by decide +kernel
theorem dX7_readInto_25 : decode cX7_readInto 25 = .ok (.iload_n 2, 1) := by decide +kernel
theorem dX7_readInto_26 : decode cX7_readInto 26 = .ok (.sipush 240, 3) := by decide +kernel
theorem dX7_readInto_29 : decode cX7_readInto 29 = .ok (.if_icmp .ge 36, 3) := by decide +kernel
theorem dX7_readInto_32 : decode cX7_readInto 32 = .ok (.aload_n 0, 1) := by decide +kernel
theorem dX7_readInto_33 : decode cX7_readInto 33 = .ok (.getfield 22, 3) := by decide +kernel
theorem dX7_readInto_36 : decode cX7_readInto 36 = .ok (.ifCond .ne 29, 3) := by decide +kernel
theorem dX7_readInto_39 : decode cX7_readInto 39 = .ok (.aload_n 0, 1) := by decide +kernel
theorem dX7_readInto_40 : decode cX7_readInto 40 = .ok (.getfield 19, 3) := by decide +kernel
theorem dX7_readInto_43 : decode cX7_readInto 43 = .ok (.aload_n 0, 1) := by decide +kernel
theorem dX7_readInto_44 : decode cX7_readInto 44 = .ok (.getfield 33, 3) := by decide +kernel
theorem dX7_readInto_47 : decode cX7_readInto 47 = .ok (.if_icmp .ge 18, 3) := by decide +kernel
theorem dX7_readInto_50 : decode cX7_readInto 50 = .ok (.aload_n 0, 1) := by decide +kernel
theorem dX7_readInto_51 : decode cX7_readInto 51 = .ok (.aload_n 1, 1) := by decide +kernel
theorem dX7_readInto_52 : decode cX7_readInto 52 = .ok (.invokevirtual 36, 3) := by decide +kernel
theorem dX7_readInto_55 : decode cX7_readInto 55 = .ok (.aload_n 0, 1) := by decide +kernel
theorem dX7_readInto_56 : decode cX7_readInto 56 = .ok (.invokevirtual 30, 3) := by decide +kernel
theorem dX7_readInto_59 : decode cX7_readInto 59 = .ok (.iinc 2 1, 3) := by decide +kernel
theorem dX7_readInto_62 : decode cX7_readInto 62 = .ok (.goto (-37), 3) := by decide +kernel
theorem dX7_readInto_65 : decode cX7_readInto 65 = .ok (.aload_n 0, 1) := by decide +kernel
theorem dX7_readInto_66 : decode cX7_readInto 66 = .ok (.iconst 0, 1) := by decide +kernel
theorem dX7_readInto_67 : decode cX7_readInto 67 = .ok (.putfield 33, 3) := by decide +kernel
theorem dX7_readInto_70 : decode cX7_readInto 70 = .ok (.aload_n 0, 1) := by decide +kernel
theorem dX7_readInto_71 : decode cX7_readInto 71 = .ok (.getfield 22, 3) := by decide +kernel
theorem dX7_readInto_74 : decode cX7_readInto 74 = .ok (.ifCond .eq 5, 3) := by decide +kernel
theorem dX7_readInto_77 : decode cX7_readInto 77 = .ok (.iconst 0, 1) := by decide +kernel
theorem dX7_readInto_78 : decode cX7_readInto 78 = .ok (.ireturn, 1) := by decide +kernel
theorem dX7_readInto_79 : decode cX7_readInto 79 = .ok (.aload_n 1, 1) := by decide +kernel
theorem dX7_readInto_80 : decode cX7_readInto 80 = .ok (.invokevirtual 40, 3) := by decide +kernel
theorem dX7_readInto_83 : decode cX7_readInto 83 = .ok (.iconst 1, 1) := by decide +kernel
theorem dX7_readInto_84 : decode cX7_readInto 84 = .ok (.ireturn, 1) := by decide +kernel
theorem dX7_readClause_0 : decode cX7_readClause 0 = .ok (.aload_n 0, 1) := by decide +kernel
theorem dX7_readClause_1 : decode cX7_readClause 1 = .ok (.invokevirtual 43, 3) := by decide +kernel
theorem dX7_readClause_4 : decode cX7_readClause 4 = .ok (.istore_n 2, 1) := by decide +kernel
theorem dX7_readClause_5 : decode cX7_readClause 5 = .ok (.iload_n 2, 1) := by decide +kernel
theorem dX7_readClause_6 : decode cX7_readClause 6 = .ok (.bipush 99, 2) := by decide +kernel
theorem dX7_readClause_8 : decode cX7_readClause 8 = .ok (.if_icmp .eq 20, 3) := by decide +kernel
theorem dX7_readClause_11 : decode cX7_readClause 11 = .ok (.aload_n 1, 1) := by decide +kernel
theorem dX7_readClause_12 : decode cX7_readClause 12 = .ok (.getfield 47, 3) := by decide +kernel
theorem dX7_readClause_15 : decode cX7_readClause 15 = .ok (.ifCond .ne 13, 3) := by decide +kernel
theorem dX7_readClause_18 : decode cX7_readClause 18 = .ok (.aload_n 0, 1) := by decide +kernel
theorem dX7_readClause_19 : decode cX7_readClause 19 = .ok (.iconst 1, 1) := by decide +kernel
theorem dX7_readClause_20 : decode cX7_readClause 20 = .ok (.aload_n 0, 1) := by decide +kernel
theorem dX7_readClause_21 : decode cX7_readClause 21 = .ok (.getfield 19, 3) := by decide +kernel
theorem dX7_readClause_24 : decode cX7_readClause 24 = .ok (.invokevirtual 50, 3) := by decide +kernel
theorem dX7_readClause_27 : decode cX7_readClause 27 = .ok (.return_, 1) := by decide +kernel
theorem dX7_readClause_28 : decode cX7_readClause 28 = .ok (.iload_n 2, 1) := by decide +kernel
theorem dX7_readClause_29 : decode cX7_readClause 29 = .ok (.lookupswitch 75 #[(99, 43), (100, 51), (113, 67), (115, 59)], 43) := by decide +kernel
theorem dX7_readClause_72 : decode cX7_readClause 72 = .ok (.aload_n 0, 1) := by decide +kernel
theorem dX7_readClause_73 : decode cX7_readClause 73 = .ok (.aload_n 1, 1) := by decide +kernel
theorem dX7_readClause_74 : decode cX7_readClause 74 = .ok (.invokevirtual 54, 3) := by decide +kernel
theorem dX7_readClause_77 : decode cX7_readClause 77 = .ok (.goto 36, 3) := by decide +kernel
theorem dX7_readClause_80 : decode cX7_readClause 80 = .ok (.aload_n 0, 1) := by decide +kernel
theorem dX7_readClause_81 : decode cX7_readClause 81 = .ok (.aload_n 1, 1) := by decide +kernel
theorem dX7_readClause_82 : decode cX7_readClause 82 = .ok (.invokevirtual 57, 3) := by decide +kernel
theorem dX7_readClause_85 : decode cX7_readClause 85 = .ok (.goto 28, 3) := by decide +kernel
theorem dX7_readClause_88 : decode cX7_readClause 88 = .ok (.aload_n 0, 1) := by decide +kernel
theorem dX7_readClause_89 : decode cX7_readClause 89 = .ok (.aload_n 1, 1) := by decide +kernel
theorem dX7_readClause_90 : decode cX7_readClause 90 = .ok (.invokevirtual 60, 3) := by decide +kernel
theorem dX7_readClause_93 : decode cX7_readClause 93 = .ok (.goto 20, 3) := by decide +kernel
theorem dX7_readClause_96 : decode cX7_readClause 96 = .ok (.aload_n 0, 1) := by decide +kernel
theorem dX7_readClause_97 : decode cX7_readClause 97 = .ok (.aload_n 1, 1) := by decide +kernel
theorem dX7_readClause_98 : decode cX7_readClause 98 = .ok (.invokevirtual 63, 3) := by decide +kernel
theorem dX7_readClause_101 : decode cX7_readClause 101 = .ok (.goto 12, 3) := by decide +kernel
theorem dX7_readClause_104 : decode cX7_readClause 104 = .ok (.aload_n 0, 1) := by decide +kernel
theorem dX7_readClause_105 : decode cX7_readClause 105 = .ok (.iconst 1, 1) := by decide +kernel
theorem dX7_readClause_106 : decode cX7_readClause 106 = .ok (.aload_n 0, 1) := by decide +kernel
theorem dX7_readClause_107 : decode cX7_readClause 107 = .ok (.getfield 19, 3) := by decide +kernel
theorem dX7_readClause_110 : decode cX7_readClause 110 = .ok (.invokevirtual 50, 3) := by decide +kernel
theorem dX7_readClause_113 : decode cX7_readClause 113 = .ok (.return_, 1) := by decide +kernel
theorem dX7_readCourts_0 : decode cX7_readCourts 0 = .ok (.aload_n 1, 1) := by decide +kernel
theorem dX7_readCourts_1 : decode cX7_readCourts 1 = .ok (.getfield 47, 3) := by decide +kernel
theorem dX7_readCourts_4 : decode cX7_readCourts 4 = .ok (.ifCond .le 13, 3) := by decide +kernel
theorem dX7_readCourts_7 : decode cX7_readCourts 7 = .ok (.aload_n 0, 1) := by decide +kernel
theorem dX7_readCourts_8 : decode cX7_readCourts 8 = .ok (.iconst 3, 1) := by decide +kernel
theorem dX7_readCourts_9 : decode cX7_readCourts 9 = .ok (.aload_n 0, 1) := by decide +kernel
theorem dX7_readCourts_10 : decode cX7_readCourts 10 = .ok (.getfield 19, 3) := by decide +kernel
theorem dX7_readCourts_13 : decode cX7_readCourts 13 = .ok (.invokevirtual 50, 3) := by decide +kernel
theorem dX7_readCourts_16 : decode cX7_readCourts 16 = .ok (.return_, 1) := by decide +kernel
theorem dX7_readCourts_17 : decode cX7_readCourts 17 = .ok (.aload_n 0, 1) := by decide +kernel
theorem dX7_readCourts_18 : decode cX7_readCourts 18 = .ok (.dup, 1) := by decide +kernel
theorem dX7_readCourts_19 : decode cX7_readCourts 19 = .ok (.getfield 19, 3) := by decide +kernel
theorem dX7_readCourts_22 : decode cX7_readCourts 22 = .ok (.iconst 1, 1) := by decide +kernel
theorem dX7_readCourts_23 : decode cX7_readCourts 23 = .ok (.iadd, 1) := by decide +kernel
theorem dX7_readCourts_24 : decode cX7_readCourts 24 = .ok (.putfield 19, 3) := by decide +kernel
theorem dX7_readCourts_27 : decode cX7_readCourts 27 = .ok (.iconst 1, 1) := by decide +kernel
theorem dX7_readCourts_28 : decode cX7_readCourts 28 = .ok (.istore_n 2, 1) := by decide +kernel
theorem dX7_readCourts_29 : decode cX7_readCourts 29 = .ok (.iconst 0, 1) := by decide +kernel
theorem dX7_readCourts_30 : decode cX7_readCourts 30 = .ok (.istore_n 3, 1) := by decide +kernel
theorem dX7_readCourts_31 : decode cX7_readCourts 31 = .ok (.iload_n 2, 1) := by decide +kernel
theorem dX7_readCourts_32 : decode cX7_readCourts 32 = .ok (.ifCond .eq 44, 3) := by decide +kernel
theorem dX7_readCourts_35 : decode cX7_readCourts 35 = .ok (.iload_n 3, 1) := by decide +kernel
theorem dX7_readCourts_36 : decode cX7_readCourts 36 = .ok (.bipush 7, 2) := by decide +kernel
theorem dX7_readCourts_38 : decode cX7_readCourts 38 = .ok (.if_icmp .ge 38, 3) := by decide +kernel
theorem dX7_readCourts_41 : decode cX7_readCourts 41 = .ok (.aload_n 0, 1) := by decide +kernel
theorem dX7_readCourts_42 : decode cX7_readCourts 42 = .ok (.iconst 1, 1) := by decide +kernel
theorem dX7_readCourts_43 : decode cX7_readCourts 43 = .ok (.bipush 9, 2) := by decide +kernel
theorem dX7_readCourts_45 : decode cX7_readCourts 45 = .ok (.invokevirtual 66, 3) := by decide +kernel
theorem dX7_readCourts_48 : decode cX7_readCourts 48 = .ok (.istore 4, 2) := by decide +kernel
theorem dX7_readCourts_50 : decode cX7_readCourts 50 = .ok (.aload_n 0, 1) := by decide +kernel
theorem dX7_readCourts_51 : decode cX7_readCourts 51 = .ok (.getfield 22, 3) := by decide +kernel
theorem dX7_readCourts_54 : decode cX7_readCourts 54 = .ok (.ifCond .eq 4, 3) := by decide +kernel
theorem dX7_readCourts_57 : decode cX7_readCourts 57 = .ok (.return_, 1) := by decide +kernel
theorem dX7_readCourts_58 : decode cX7_readCourts 58 = .ok (.aload_n 1, 1) := by decide +kernel
theorem dX7_readCourts_59 : decode cX7_readCourts 59 = .ok (.iload 4, 2) := by decide +kernel
theorem dX7_readCourts_61 : decode cX7_readCourts 61 = .ok (.invokevirtual 70, 3) := by decide +kernel
theorem dX7_readCourts_64 : decode cX7_readCourts 64 = .ok (.aload_n 0, 1) := by decide +kernel
theorem dX7_readCourts_65 : decode cX7_readCourts 65 = .ok (.aload_n 1, 1) := by decide +kernel
theorem dX7_readCourts_66 : decode cX7_readCourts 66 = .ok (.invokevirtual 74, 3) := by decide +kernel
theorem dX7_readCourts_69 : decode cX7_readCourts 69 = .ok (.istore_n 2, 1) := by decide +kernel
theorem dX7_readCourts_70 : decode cX7_readCourts 70 = .ok (.iinc 3 1, 3) := by decide +kernel
theorem dX7_readCourts_73 : decode cX7_readCourts 73 = .ok (.goto (-42), 3) := by decide +kernel
theorem dX7_readCourts_76 : decode cX7_readCourts 76 = .ok (.return_, 1) := by decide +kernel
theorem dX7_readCourtsMark_0 : decode cX7_readCourtsMark 0 = .ok (.aload_n 0, 1) := by decide +kernel
theorem dX7_readCourtsMark_1 : decode cX7_readCourtsMark 1 = .ok (.invokevirtual 30, 3) := by decide +kernel
theorem dX7_readCourtsMark_4 : decode cX7_readCourtsMark 4 = .ok (.aload_n 0, 1) := by decide +kernel
theorem dX7_readCourtsMark_5 : decode cX7_readCourtsMark 5 = .ok (.invokevirtual 43, 3) := by decide +kernel
theorem dX7_readCourtsMark_8 : decode cX7_readCourtsMark 8 = .ok (.istore_n 2, 1) := by decide +kernel
theorem dX7_readCourtsMark_9 : decode cX7_readCourtsMark 9 = .ok (.iload_n 2, 1) := by decide +kernel
theorem dX7_readCourtsMark_10 : decode cX7_readCourtsMark 10 = .ok (.bipush 44, 2) := by decide +kernel
theorem dX7_readCourtsMark_12 : decode cX7_readCourtsMark 12 = .ok (.if_icmp .ne 16, 3) := by decide +kernel
theorem dX7_readCourtsMark_15 : decode cX7_readCourtsMark 15 = .ok (.aload_n 1, 1) := by decide +kernel
theorem dX7_readCourtsMark_16 : decode cX7_readCourtsMark 16 = .ok (.getfield 47, 3) := by decide +kernel
theorem dX7_readCourtsMark_19 : decode cX7_readCourtsMark 19 = .ok (.bipush 7, 2) := by decide +kernel
theorem dX7_readCourtsMark_21 : decode cX7_readCourtsMark 21 = .ok (.if_icmp .ge 7, 3) := by decide +kernel
theorem dX7_readCourtsMark_24 : decode cX7_readCourtsMark 24 = .ok (.iconst 1, 1) := by decide +kernel
theorem dX7_readCourtsMark_25 : decode cX7_readCourtsMark 25 = .ok (.goto 4, 3) := by decide +kernel
theorem dX7_readCourtsMark_28 : decode cX7_readCourtsMark 28 = .ok (.iconst 0, 1) := by decide +kernel
theorem dX7_readCourtsMark_29 : decode cX7_readCourtsMark 29 = .ok (.istore_n 3, 1) := by decide +kernel
theorem dX7_readCourtsMark_30 : decode cX7_readCourtsMark 30 = .ok (.iload_n 2, 1) := by decide +kernel
theorem dX7_readCourtsMark_31 : decode cX7_readCourtsMark 31 = .ok (.bipush 59, 2) := by decide +kernel
theorem dX7_readCourtsMark_33 : decode cX7_readCourtsMark 33 = .ok (.if_icmp .ne 15, 3) := by decide +kernel
theorem dX7_readCourtsMark_36 : decode cX7_readCourtsMark 36 = .ok (.aload_n 1, 1) := by decide +kernel
theorem dX7_readCourtsMark_37 : decode cX7_readCourtsMark 37 = .ok (.getfield 47, 3) := by decide +kernel
theorem dX7_readCourtsMark_40 : decode cX7_readCourtsMark 40 = .ok (.iconst 1, 1) := by decide +kernel
theorem dX7_readCourtsMark_41 : decode cX7_readCourtsMark 41 = .ok (.if_icmp .le 7, 3) := by decide +kernel
theorem dX7_readCourtsMark_44 : decode cX7_readCourtsMark 44 = .ok (.iconst 1, 1) := by decide +kernel
theorem dX7_readCourtsMark_45 : decode cX7_readCourtsMark 45 = .ok (.goto 4, 3) := by decide +kernel
theorem dX7_readCourtsMark_48 : decode cX7_readCourtsMark 48 = .ok (.iconst 0, 1) := by decide +kernel
theorem dX7_readCourtsMark_49 : decode cX7_readCourtsMark 49 = .ok (.istore 4, 2) := by decide +kernel
theorem dX7_readCourtsMark_51 : decode cX7_readCourtsMark 51 = .ok (.iload_n 3, 1) := by decide +kernel
theorem dX7_readCourtsMark_52 : decode cX7_readCourtsMark 52 = .ok (.ifCond .ne 19, 3) := by decide +kernel
theorem dX7_readCourtsMark_55 : decode cX7_readCourtsMark 55 = .ok (.iload 4, 2) := by decide +kernel
theorem dX7_readCourtsMark_57 : decode cX7_readCourtsMark 57 = .ok (.ifCond .ne 14, 3) := by decide +kernel
theorem dX7_readCourtsMark_60 : decode cX7_readCourtsMark 60 = .ok (.aload_n 0, 1) := by decide +kernel
theorem dX7_readCourtsMark_61 : decode cX7_readCourtsMark 61 = .ok (.iconst 1, 1) := by decide +kernel
theorem dX7_readCourtsMark_62 : decode cX7_readCourtsMark 62 = .ok (.aload_n 0, 1) := by decide +kernel
theorem dX7_readCourtsMark_63 : decode cX7_readCourtsMark 63 = .ok (.getfield 19, 3) := by decide +kernel
theorem dX7_readCourtsMark_66 : decode cX7_readCourtsMark 66 = .ok (.invokevirtual 50, 3) := by decide +kernel
theorem dX7_readCourtsMark_69 : decode cX7_readCourtsMark 69 = .ok (.iconst 0, 1) := by decide +kernel
theorem dX7_readCourtsMark_70 : decode cX7_readCourtsMark 70 = .ok (.ireturn, 1) := by decide +kernel
theorem dX7_readCourtsMark_71 : decode cX7_readCourtsMark 71 = .ok (.aload_n 0, 1) := by decide +kernel
theorem dX7_readCourtsMark_72 : decode cX7_readCourtsMark 72 = .ok (.dup, 1) := by decide +kernel
theorem dX7_readCourtsMark_73 : decode cX7_readCourtsMark 73 = .ok (.getfield 19, 3) := by decide +kernel
theorem dX7_readCourtsMark_76 : decode cX7_readCourtsMark 76 = .ok (.iconst 1, 1) := by decide +kernel
theorem dX7_readCourtsMark_77 : decode cX7_readCourtsMark 77 = .ok (.iadd, 1) := by decide +kernel
theorem dX7_readCourtsMark_78 : decode cX7_readCourtsMark 78 = .ok (.putfield 19, 3) := by decide +kernel
theorem dX7_readCourtsMark_81 : decode cX7_readCourtsMark 81 = .ok (.iload_n 3, 1) := by decide +kernel
theorem dX7_readCourtsMark_82 : decode cX7_readCourtsMark 82 = .ok (.ireturn, 1) := by decide +kernel
theorem dX7_readDoll_0 : decode cX7_readDoll 0 = .ok (.aload_n 1, 1) := by decide +kernel
theorem dX7_readDoll_1 : decode cX7_readDoll 1 = .ok (.getfield 78, 3) := by decide +kernel
theorem dX7_readDoll_4 : decode cX7_readDoll 4 = .ok (.bipush 8, 2) := by decide +kernel
theorem dX7_readDoll_6 : decode cX7_readDoll 6 = .ok (.if_icmp .lt 13, 3) := by decide +kernel
theorem dX7_readDoll_9 : decode cX7_readDoll 9 = .ok (.aload_n 0, 1) := by decide +kernel
theorem dX7_readDoll_10 : decode cX7_readDoll 10 = .ok (.iconst 3, 1) := by decide +kernel
theorem dX7_readDoll_11 : decode cX7_readDoll 11 = .ok (.aload_n 0, 1) := by decide +kernel
theorem dX7_readDoll_12 : decode cX7_readDoll 12 = .ok (.getfield 19, 3) := by decide +kernel
theorem dX7_readDoll_15 : decode cX7_readDoll 15 = .ok (.invokevirtual 50, 3) := by decide +kernel
theorem dX7_readDoll_18 : decode cX7_readDoll 18 = .ok (.return_, 1) := by decide +kernel
theorem dX7_readDoll_19 : decode cX7_readDoll 19 = .ok (.aload_n 0, 1) := by decide +kernel
theorem dX7_readDoll_20 : decode cX7_readDoll 20 = .ok (.dup, 1) := by decide +kernel
theorem dX7_readDoll_21 : decode cX7_readDoll 21 = .ok (.getfield 19, 3) := by decide +kernel
theorem dX7_readDoll_24 : decode cX7_readDoll 24 = .ok (.iconst 1, 1) := by decide +kernel
theorem dX7_readDoll_25 : decode cX7_readDoll 25 = .ok (.iadd, 1) := by decide +kernel
theorem dX7_readDoll_26 : decode cX7_readDoll 26 = .ok (.putfield 19, 3) := by decide +kernel
theorem dX7_readDoll_29 : decode cX7_readDoll 29 = .ok (.aload_n 0, 1) := by decide +kernel
theorem dX7_readDoll_30 : decode cX7_readDoll 30 = .ok (.iconst 0, 1) := by decide +kernel
theorem dX7_readDoll_31 : decode cX7_readDoll 31 = .ok (.iconst 3, 1) := by decide +kernel
theorem dX7_readDoll_32 : decode cX7_readDoll 32 = .ok (.invokevirtual 66, 3) := by decide +kernel
theorem dX7_readDoll_35 : decode cX7_readDoll 35 = .ok (.istore_n 2, 1) := by decide +kernel
theorem dX7_readDoll_36 : decode cX7_readDoll 36 = .ok (.aload_n 0, 1) := by decide +kernel
theorem dX7_readDoll_37 : decode cX7_readDoll 37 = .ok (.iconst 0, 1) := by decide +kernel
theorem dX7_readDoll_38 : decode cX7_readDoll 38 = .ok (.aload_n 1, 1) := by decide +kernel
theorem dX7_readDoll_39 : decode cX7_readDoll 39 = .ok (.getfield 47, 3) := by decide +kernel
theorem dX7_readDoll_42 : decode cX7_readDoll 42 = .ok (.iconst 1, 1) := by decide +kernel
theorem dX7_readDoll_43 : decode cX7_readDoll 43 = .ok (.isub, 1) := by decide +kernel
theorem dX7_readDoll_44 : decode cX7_readDoll 44 = .ok (.invokevirtual 66, 3) := by decide +kernel
theorem dX7_readDoll_47 : decode cX7_readDoll 47 = .ok (.istore_n 3, 1) := by decide +kernel
theorem dX7_readDoll_48 : decode cX7_readDoll 48 = .ok (.aload_n 0, 1) := by decide +kernel
theorem dX7_readDoll_49 : decode cX7_readDoll 49 = .ok (.iconst 0, 1) := by decide +kernel
theorem dX7_readDoll_50 : decode cX7_readDoll 50 = .ok (.bipush 63, 2) := by decide +kernel
theorem dX7_readDoll_52 : decode cX7_readDoll 52 = .ok (.invokevirtual 66, 3) := by decide +kernel
theorem dX7_readDoll_55 : decode cX7_readDoll 55 = .ok (.istore 4, 2) := by decide +kernel
theorem dX7_readDoll_57 : decode cX7_readDoll 57 = .ok (.aload_n 0, 1) := by decide +kernel
theorem dX7_readDoll_58 : decode cX7_readDoll 58 = .ok (.invokevirtual 81, 3) := by decide +kernel
theorem dX7_readDoll_61 : decode cX7_readDoll 61 = .ok (.aload_n 0, 1) := by decide +kernel
theorem dX7_readDoll_62 : decode cX7_readDoll 62 = .ok (.getfield 22, 3) := by decide +kernel
theorem dX7_readDoll_65 : decode cX7_readDoll 65 = .ok (.ifCond .ne 11, 3) := by decide +kernel
theorem dX7_readDoll_68 : decode cX7_readDoll 68 = .ok (.aload_n 1, 1) := by decide +kernel
theorem dX7_readDoll_69 : decode cX7_readDoll 69 = .ok (.iload_n 2, 1) := by decide +kernel
theorem dX7_readDoll_70 : decode cX7_readDoll 70 = .ok (.iload_n 3, 1) := by decide +kernel
theorem dX7_readDoll_71 : decode cX7_readDoll 71 = .ok (.iload 4, 2) := by decide +kernel
theorem dX7_readDoll_73 : decode cX7_readDoll 73 = .ok (.invokevirtual 84, 3) := by decide +kernel
theorem dX7_readDoll_76 : decode cX7_readDoll 76 = .ok (.return_, 1) := by decide +kernel
theorem dX7_readPattern_0 : decode cX7_readPattern 0 = .ok (.aload_n 1, 1) := by decide +kernel
theorem dX7_readPattern_1 : decode cX7_readPattern 1 = .ok (.getfield 88, 3) := by decide +kernel
theorem dX7_readPattern_4 : decode cX7_readPattern 4 = .ok (.ifCond .eq 13, 3) := by decide +kernel
theorem dX7_readPattern_7 : decode cX7_readPattern 7 = .ok (.aload_n 0, 1) := by decide +kernel
theorem dX7_readPattern_8 : decode cX7_readPattern 8 = .ok (.iconst 3, 1) := by decide +kernel
theorem dX7_readPattern_9 : decode cX7_readPattern 9 = .ok (.aload_n 0, 1) := by decide +kernel
theorem dX7_readPattern_10 : decode cX7_readPattern 10 = .ok (.getfield 19, 3) := by decide +kernel
theorem dX7_readPattern_13 : decode cX7_readPattern 13 = .ok (.invokevirtual 50, 3) := by decide +kernel
theorem dX7_readPattern_16 : decode cX7_readPattern 16 = .ok (.return_, 1) := by decide +kernel
theorem dX7_readPattern_17 : decode cX7_readPattern 17 = .ok (.aload_n 0, 1) := by decide +kernel
theorem dX7_readPattern_18 : decode cX7_readPattern 18 = .ok (.dup, 1) := by decide +kernel
theorem dX7_readPattern_19 : decode cX7_readPattern 19 = .ok (.getfield 19, 3) := by decide +kernel
theorem dX7_readPattern_22 : decode cX7_readPattern 22 = .ok (.iconst 1, 1) := by decide +kernel
theorem dX7_readPattern_23 : decode cX7_readPattern 23 = .ok (.iadd, 1) := by decide +kernel
theorem dX7_readPattern_24 : decode cX7_readPattern 24 = .ok (.putfield 19, 3) := by decide +kernel
theorem dX7_readPattern_27 : decode cX7_readPattern 27 = .ok (.aload_n 1, 1) := by decide +kernel
theorem dX7_readPattern_28 : decode cX7_readPattern 28 = .ok (.aload_n 0, 1) := by decide +kernel
theorem dX7_readPattern_29 : decode cX7_readPattern 29 = .ok (.iconst 0, 1) := by decide +kernel
theorem dX7_readPattern_30 : decode cX7_readPattern 30 = .ok (.bipush 63, 2) := by decide +kernel
theorem dX7_readPattern_32 : decode cX7_readPattern 32 = .ok (.invokevirtual 66, 3) := by decide +kernel
theorem dX7_readPattern_35 : decode cX7_readPattern 35 = .ok (.putfield 92, 3) := by decide +kernel
theorem dX7_readPattern_38 : decode cX7_readPattern 38 = .ok (.aload_n 1, 1) := by decide +kernel
theorem dX7_readPattern_39 : decode cX7_readPattern 39 = .ok (.iconst 1, 1) := by decide +kernel
theorem dX7_readPattern_40 : decode cX7_readPattern 40 = .ok (.putfield 88, 3) := by decide +kernel
theorem dX7_readPattern_43 : decode cX7_readPattern 43 = .ok (.aload_n 0, 1) := by decide +kernel
theorem dX7_readPattern_44 : decode cX7_readPattern 44 = .ok (.invokevirtual 81, 3) := by decide +kernel
theorem dX7_readPattern_47 : decode cX7_readPattern 47 = .ok (.return_, 1) := by decide +kernel
theorem dX7_readQuota_0 : decode cX7_readQuota 0 = .ok (.aload_n 1, 1) := by decide +kernel
theorem dX7_readQuota_1 : decode cX7_readQuota 1 = .ok (.getfield 95, 3) := by decide +kernel
theorem dX7_readQuota_4 : decode cX7_readQuota 4 = .ok (.ifCond .eq 13, 3) := by decide +kernel
theorem dX7_readQuota_7 : decode cX7_readQuota 7 = .ok (.aload_n 0, 1) := by decide +kernel
theorem dX7_readQuota_8 : decode cX7_readQuota 8 = .ok (.iconst 3, 1) := by decide +kernel
theorem dX7_readQuota_9 : decode cX7_readQuota 9 = .ok (.aload_n 0, 1) := by decide +kernel
theorem dX7_readQuota_10 : decode cX7_readQuota 10 = .ok (.getfield 19, 3) := by decide +kernel
theorem dX7_readQuota_13 : decode cX7_readQuota 13 = .ok (.invokevirtual 50, 3) := by decide +kernel
theorem dX7_readQuota_16 : decode cX7_readQuota 16 = .ok (.return_, 1) := by decide +kernel
theorem dX7_readQuota_17 : decode cX7_readQuota 17 = .ok (.aload_n 0, 1) := by decide +kernel
theorem dX7_readQuota_18 : decode cX7_readQuota 18 = .ok (.dup, 1) := by decide +kernel
theorem dX7_readQuota_19 : decode cX7_readQuota 19 = .ok (.getfield 19, 3) := by decide +kernel
theorem dX7_readQuota_22 : decode cX7_readQuota 22 = .ok (.iconst 1, 1) := by decide +kernel
theorem dX7_readQuota_23 : decode cX7_readQuota 23 = .ok (.iadd, 1) := by decide +kernel
theorem dX7_readQuota_24 : decode cX7_readQuota 24 = .ok (.putfield 19, 3) := by decide +kernel
theorem dX7_readQuota_27 : decode cX7_readQuota 27 = .ok (.aload_n 1, 1) := by decide +kernel
theorem dX7_readQuota_28 : decode cX7_readQuota 28 = .ok (.aload_n 0, 1) := by decide +kernel
theorem dX7_readQuota_29 : decode cX7_readQuota 29 = .ok (.iconst 1, 1) := by decide +kernel
theorem dX7_readQuota_30 : decode cX7_readQuota 30 = .ok (.bipush 63, 2) := by decide +kernel
theorem dX7_readQuota_32 : decode cX7_readQuota 32 = .ok (.invokevirtual 66, 3) := by decide +kernel
theorem dX7_readQuota_35 : decode cX7_readQuota 35 = .ok (.putfield 98, 3) := by decide +kernel
theorem dX7_readQuota_38 : decode cX7_readQuota 38 = .ok (.aload_n 1, 1) := by decide +kernel
theorem dX7_readQuota_39 : decode cX7_readQuota 39 = .ok (.iconst 1, 1) := by decide +kernel
theorem dX7_readQuota_40 : decode cX7_readQuota 40 = .ok (.putfield 95, 3) := by decide +kernel
theorem dX7_readQuota_43 : decode cX7_readQuota 43 = .ok (.aload_n 0, 1) := by decide +kernel
theorem dX7_readQuota_44 : decode cX7_readQuota 44 = .ok (.invokevirtual 81, 3) := by decide +kernel
theorem dX7_readQuota_47 : decode cX7_readQuota 47 = .ok (.return_, 1) := by decide +kernel
theorem dX7_readEnd_0 : decode cX7_readEnd 0 = .ok (.aload_n 0, 1) := by decide +kernel
theorem dX7_readEnd_1 : decode cX7_readEnd 1 = .ok (.invokevirtual 30, 3) := by decide +kernel
theorem dX7_readEnd_4 : decode cX7_readEnd 4 = .ok (.aload_n 0, 1) := by decide +kernel
theorem dX7_readEnd_5 : decode cX7_readEnd 5 = .ok (.invokevirtual 43, 3) := by decide +kernel
theorem dX7_readEnd_8 : decode cX7_readEnd 8 = .ok (.bipush 59, 2) := by decide +kernel
theorem dX7_readEnd_10 : decode cX7_readEnd 10 = .ok (.if_icmp .eq 13, 3) := by decide +kernel
theorem dX7_readEnd_13 : decode cX7_readEnd 13 = .ok (.aload_n 0, 1) := by decide +kernel
theorem dX7_readEnd_14 : decode cX7_readEnd 14 = .ok (.iconst 1, 1) := by decide +kernel
theorem dX7_readEnd_15 : decode cX7_readEnd 15 = .ok (.aload_n 0, 1) := by decide +kernel
theorem dX7_readEnd_16 : decode cX7_readEnd 16 = .ok (.getfield 19, 3) := by decide +kernel
theorem dX7_readEnd_19 : decode cX7_readEnd 19 = .ok (.invokevirtual 50, 3) := by decide +kernel
theorem dX7_readEnd_22 : decode cX7_readEnd 22 = .ok (.return_, 1) := by decide +kernel
theorem dX7_readEnd_23 : decode cX7_readEnd 23 = .ok (.aload_n 0, 1) := by decide +kernel
theorem dX7_readEnd_24 : decode cX7_readEnd 24 = .ok (.dup, 1) := by decide +kernel
theorem dX7_readEnd_25 : decode cX7_readEnd 25 = .ok (.getfield 19, 3) := by decide +kernel
theorem dX7_readEnd_28 : decode cX7_readEnd 28 = .ok (.iconst 1, 1) := by decide +kernel
theorem dX7_readEnd_29 : decode cX7_readEnd 29 = .ok (.iadd, 1) := by decide +kernel
theorem dX7_readEnd_30 : decode cX7_readEnd 30 = .ok (.putfield 19, 3) := by decide +kernel
theorem dX7_readEnd_33 : decode cX7_readEnd 33 = .ok (.return_, 1) := by decide +kernel
theorem dX7_readNumber_0 : decode cX7_readNumber 0 = .ok (.aload_n 0, 1) := by decide +kernel
theorem dX7_readNumber_1 : decode cX7_readNumber 1 = .ok (.invokevirtual 30, 3) := by decide +kernel
theorem dX7_readNumber_4 : decode cX7_readNumber 4 = .ok (.aload_n 0, 1) := by decide +kernel
theorem dX7_readNumber_5 : decode cX7_readNumber 5 = .ok (.getfield 19, 3) := by decide +kernel
theorem dX7_readNumber_8 : decode cX7_readNumber 8 = .ok (.istore_n 3, 1) := by decide +kernel
theorem dX7_readNumber_9 : decode cX7_readNumber 9 = .ok (.iconst 0, 1) := by decide +kernel
theorem dX7_readNumber_10 : decode cX7_readNumber 10 = .ok (.istore 4, 2) := by decide +kernel
theorem dX7_readNumber_12 : decode cX7_readNumber 12 = .ok (.aload_n 0, 1) := by decide +kernel
theorem dX7_readNumber_13 : decode cX7_readNumber 13 = .ok (.getfield 19, 3) := by decide +kernel
theorem dX7_readNumber_16 : decode cX7_readNumber 16 = .ok (.aload_n 0, 1) := by decide +kernel
theorem dX7_readNumber_17 : decode cX7_readNumber 17 = .ok (.getfield 33, 3) := by decide +kernel
theorem dX7_readNumber_20 : decode cX7_readNumber 20 = .ok (.if_icmp .ge 47, 3) := by decide +kernel
theorem dX7_readNumber_23 : decode cX7_readNumber 23 = .ok (.aload_n 0, 1) := by decide +kernel
theorem dX7_readNumber_24 : decode cX7_readNumber 24 = .ok (.invokevirtual 43, 3) := by decide +kernel
theorem dX7_readNumber_27 : decode cX7_readNumber 27 = .ok (.invokestatic 101, 3) := by decide +kernel
theorem dX7_readNumber_30 : decode cX7_readNumber 30 = .ok (.ifCond .eq 37, 3) := by decide +kernel
theorem dX7_readNumber_33 : decode cX7_readNumber 33 = .ok (.iload 4, 2) := by decide +kernel
theorem dX7_readNumber_35 : decode cX7_readNumber 35 = .ok (.bipush 10, 2) := by decide +kernel
theorem dX7_readNumber_37 : decode cX7_readNumber 37 = .ok (.imul, 1) := by decide +kernel
theorem dX7_readNumber_38 : decode cX7_readNumber 38 = .ok (.aload_n 0, 1) := by decide +kernel
theorem dX7_readNumber_39 : decode cX7_readNumber 39 = .ok (.invokevirtual 43, 3) := by decide +kernel
theorem dX7_readNumber_42 : decode cX7_readNumber 42 = .ok (.iadd, 1) := by decide +kernel
theorem dX7_readNumber_43 : decode cX7_readNumber 43 = .ok (.bipush 48, 2) := by decide +kernel
theorem dX7_readNumber_45 : decode cX7_readNumber 45 = .ok (.isub, 1) := by decide +kernel
theorem dX7_readNumber_46 : decode cX7_readNumber 46 = .ok (.sipush 1000, 3) := by decide +kernel
theorem dX7_readNumber_49 : decode cX7_readNumber 49 = .ok (.invokestatic 105, 3) := by decide +kernel
theorem dX7_readNumber_52 : decode cX7_readNumber 52 = .ok (.istore 4, 2) := by decide +kernel
theorem dX7_readNumber_54 : decode cX7_readNumber 54 = .ok (.aload_n 0, 1) := by decide +kernel
theorem dX7_readNumber_55 : decode cX7_readNumber 55 = .ok (.dup, 1) := by decide +kernel
theorem dX7_readNumber_56 : decode cX7_readNumber 56 = .ok (.getfield 19, 3) := by decide +kernel
theorem dX7_readNumber_59 : decode cX7_readNumber 59 = .ok (.iconst 1, 1) := by decide +kernel
theorem dX7_readNumber_60 : decode cX7_readNumber 60 = .ok (.iadd, 1) := by decide +kernel
theorem dX7_readNumber_61 : decode cX7_readNumber 61 = .ok (.putfield 19, 3) := by decide +kernel
theorem dX7_readNumber_64 : decode cX7_readNumber 64 = .ok (.goto (-52), 3) := by decide +kernel
theorem dX7_readNumber_67 : decode cX7_readNumber 67 = .ok (.aload_n 0, 1) := by decide +kernel
theorem dX7_readNumber_68 : decode cX7_readNumber 68 = .ok (.getfield 19, 3) := by decide +kernel
theorem dX7_readNumber_71 : decode cX7_readNumber 71 = .ok (.iload_n 3, 1) := by decide +kernel
theorem dX7_readNumber_72 : decode cX7_readNumber 72 = .ok (.if_icmp .ne 12, 3) := by decide +kernel
theorem dX7_readNumber_75 : decode cX7_readNumber 75 = .ok (.aload_n 0, 1) := by decide +kernel
theorem dX7_readNumber_76 : decode cX7_readNumber 76 = .ok (.iconst 1, 1) := by decide +kernel
theorem dX7_readNumber_77 : decode cX7_readNumber 77 = .ok (.iload_n 3, 1) := by decide +kernel
theorem dX7_readNumber_78 : decode cX7_readNumber 78 = .ok (.invokevirtual 50, 3) := by decide +kernel
theorem dX7_readNumber_81 : decode cX7_readNumber 81 = .ok (.goto 31, 3) := by decide +kernel
theorem dX7_readNumber_84 : decode cX7_readNumber 84 = .ok (.aload_n 0, 1) := by decide +kernel
theorem dX7_readNumber_85 : decode cX7_readNumber 85 = .ok (.getfield 19, 3) := by decide +kernel
theorem dX7_readNumber_88 : decode cX7_readNumber 88 = .ok (.iload_n 3, 1) := by decide +kernel
theorem dX7_readNumber_89 : decode cX7_readNumber 89 = .ok (.isub, 1) := by decide +kernel
theorem dX7_readNumber_90 : decode cX7_readNumber 90 = .ok (.iconst 3, 1) := by decide +kernel
theorem dX7_readNumber_91 : decode cX7_readNumber 91 = .ok (.if_icmp .gt 15, 3) := by decide +kernel
theorem dX7_readNumber_94 : decode cX7_readNumber 94 = .ok (.iload 4, 2) := by decide +kernel
theorem dX7_readNumber_96 : decode cX7_readNumber 96 = .ok (.iload_n 1, 1) := by decide +kernel
theorem dX7_readNumber_97 : decode cX7_readNumber 97 = .ok (.if_icmp .lt 9, 3) := by decide +kernel
theorem dX7_readNumber_100 : decode cX7_readNumber 100 = .ok (.iload 4, 2) := by decide +kernel
theorem dX7_readNumber_102 : decode cX7_readNumber 102 = .ok (.iload_n 2, 1) := by decide +kernel
theorem dX7_readNumber_103 : decode cX7_readNumber 103 = .ok (.if_icmp .le 9, 3) := by decide +kernel
theorem dX7_readNumber_106 : decode cX7_readNumber 106 = .ok (.aload_n 0, 1) := by decide +kernel
theorem dX7_readNumber_107 : decode cX7_readNumber 107 = .ok (.iconst 2, 1) := by decide +kernel
theorem dX7_readNumber_108 : decode cX7_readNumber 108 = .ok (.iload_n 3, 1) := by decide +kernel
theorem dX7_readNumber_109 : decode cX7_readNumber 109 = .ok (.invokevirtual 50, 3) := by decide +kernel
theorem dX7_readNumber_112 : decode cX7_readNumber 112 = .ok (.iload 4, 2) := by decide +kernel
theorem dX7_readNumber_114 : decode cX7_readNumber 114 = .ok (.ireturn, 1) := by decide +kernel
theorem dX7_isFigure_0 : decode cX7_isFigure 0 = .ok (.iload_n 0, 1) := by decide +kernel
theorem dX7_isFigure_1 : decode cX7_isFigure 1 = .ok (.bipush 48, 2) := by decide +kernel
theorem dX7_isFigure_3 : decode cX7_isFigure 3 = .ok (.if_icmp .lt 13, 3) := by decide +kernel
theorem dX7_isFigure_6 : decode cX7_isFigure 6 = .ok (.iload_n 0, 1) := by decide +kernel
theorem dX7_isFigure_7 : decode cX7_isFigure 7 = .ok (.bipush 57, 2) := by decide +kernel
theorem dX7_isFigure_9 : decode cX7_isFigure 9 = .ok (.if_icmp .gt 7, 3) := by decide +kernel
theorem dX7_isFigure_12 : decode cX7_isFigure 12 = .ok (.iconst 1, 1) := by decide +kernel
theorem dX7_isFigure_13 : decode cX7_isFigure 13 = .ok (.goto 4, 3) := by decide +kernel
theorem dX7_isFigure_16 : decode cX7_isFigure 16 = .ok (.iconst 0, 1) := by decide +kernel
theorem dX7_isFigure_17 : decode cX7_isFigure 17 = .ok (.ireturn, 1) := by decide +kernel
theorem dX7_skipBlanks_0 : decode cX7_skipBlanks 0 = .ok (.aload_n 0, 1) := by decide +kernel
theorem dX7_skipBlanks_1 : decode cX7_skipBlanks 1 = .ok (.getfield 19, 3) := by decide +kernel
theorem dX7_skipBlanks_4 : decode cX7_skipBlanks 4 = .ok (.aload_n 0, 1) := by decide +kernel
theorem dX7_skipBlanks_5 : decode cX7_skipBlanks 5 = .ok (.getfield 33, 3) := by decide +kernel
theorem dX7_skipBlanks_8 : decode cX7_skipBlanks 8 = .ok (.if_icmp .ge 25, 3) := by decide +kernel
theorem dX7_skipBlanks_11 : decode cX7_skipBlanks 11 = .ok (.aload_n 0, 1) := by decide +kernel
theorem dX7_skipBlanks_12 : decode cX7_skipBlanks 12 = .ok (.invokevirtual 43, 3) := by decide +kernel
