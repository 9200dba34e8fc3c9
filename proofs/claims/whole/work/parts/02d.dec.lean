theorem dX9_first_0 : decode cX9_first 0 = .ok (.aload_n 0, 1) := by decide +kernel
theorem dX9_first_1 : decode cX9_first 1 = .ok (.getfield 60, 3) := by decide +kernel
theorem dX9_first_4 : decode cX9_first 4 = .ok (.iload_n 1, 1) := by decide +kernel
theorem dX9_first_5 : decode cX9_first 5 = .ok (.invokevirtual 153, 3) := by decide +kernel
theorem dX9_first_8 : decode cX9_first 8 = .ok (.ifCond .ne 6, 3) := by decide +kernel
theorem dX9_first_11 : decode cX9_first 11 = .ok (.ldc 157, 2) := by decide +kernel
theorem dX9_first_13 : decode cX9_first 13 = .ok (.ireturn, 1) := by decide +kernel
theorem dX9_first_14 : decode cX9_first 14 = .ok (.iload_n 2, 1) := by decide +kernel
theorem dX9_first_15 : decode cX9_first 15 = .ok (.ifCond .lt 9, 3) := by decide +kernel
theorem dX9_first_18 : decode cX9_first 18 = .ok (.iload_n 2, 1) := by decide +kernel
theorem dX9_first_19 : decode cX9_first 19 = .ok (.bipush 99, 2) := by decide +kernel
theorem dX9_first_21 : decode cX9_first 21 = .ok (.if_icmp .le 6, 3) := by decide +kernel
theorem dX9_first_24 : decode cX9_first 24 = .ok (.ldc 68, 2) := by decide +kernel
theorem dX9_first_26 : decode cX9_first 26 = .ok (.ireturn, 1) := by decide +kernel
theorem dX9_first_27 : decode cX9_first 27 = .ok (.aload_n 0, 1) := by decide +kernel
theorem dX9_first_28 : decode cX9_first 28 = .ok (.getfield 19, 3) := by decide +kernel
theorem dX9_first_31 : decode cX9_first 31 = .ok (.aload_n 0, 1) := by decide +kernel
theorem dX9_first_32 : decode cX9_first 32 = .ok (.getfield 60, 3) := by decide +kernel
theorem dX9_first_35 : decode cX9_first 35 = .ok (.iload_n 1, 1) := by decide +kernel
theorem dX9_first_36 : decode cX9_first 36 = .ok (.iload_n 2, 1) := by decide +kernel
theorem dX9_first_37 : decode cX9_first 37 = .ok (.invokevirtual 231, 3) := by decide +kernel
theorem dX9_first_40 : decode cX9_first 40 = .ok (.ireturn, 1) := by decide +kernel
theorem dX9_swaps_0 : decode cX9_swaps 0 = .ok (.iload_n 1, 1) := by decide +kernel
theorem dX9_swaps_1 : decode cX9_swaps 1 = .ok (.ifCond .lt 8, 3) := by decide +kernel
theorem dX9_swaps_4 : decode cX9_swaps 4 = .ok (.iload_n 1, 1) := by decide +kernel
theorem dX9_swaps_5 : decode cX9_swaps 5 = .ok (.iconst 1, 1) := by decide +kernel
theorem dX9_swaps_6 : decode cX9_swaps 6 = .ok (.if_icmp .le 6, 3) := by decide +kernel
theorem dX9_swaps_9 : decode cX9_swaps 9 = .ok (.ldc 68, 2) := by decide +kernel
theorem dX9_swaps_11 : decode cX9_swaps 11 = .ok (.ireturn, 1) := by decide +kernel
theorem dX9_swaps_12 : decode cX9_swaps 12 = .ok (.iload_n 1, 1) := by decide +kernel
theorem dX9_swaps_13 : decode cX9_swaps 13 = .ok (.ifCond .ne 21, 3) := by decide +kernel
theorem dX9_swaps_16 : decode cX9_swaps 16 = .ok (.aload_n 0, 1) := by decide +kernel
theorem dX9_swaps_17 : decode cX9_swaps 17 = .ok (.getfield 46, 3) := by decide +kernel
theorem dX9_swaps_20 : decode cX9_swaps 20 = .ok (.aload_n 0, 1) := by decide +kernel
theorem dX9_swaps_21 : decode cX9_swaps 21 = .ok (.getfield 60, 3) := by decide +kernel
theorem dX9_swaps_24 : decode cX9_swaps 24 = .ok (.aload_n 0, 1) := by decide +kernel
theorem dX9_swaps_25 : decode cX9_swaps 25 = .ok (.getfield 19, 3) := by decide +kernel
theorem dX9_swaps_28 : decode cX9_swaps 28 = .ok (.invokevirtual 234, 3) := by decide +kernel
theorem dX9_swaps_31 : decode cX9_swaps 31 = .ok (.goto 18, 3) := by decide +kernel
theorem dX9_swaps_34 : decode cX9_swaps 34 = .ok (.aload_n 0, 1) := by decide +kernel
theorem dX9_swaps_35 : decode cX9_swaps 35 = .ok (.getfield 46, 3) := by decide +kernel
theorem dX9_swaps_38 : decode cX9_swaps 38 = .ok (.aload_n 0, 1) := by decide +kernel
theorem dX9_swaps_39 : decode cX9_swaps 39 = .ok (.getfield 60, 3) := by decide +kernel
theorem dX9_swaps_42 : decode cX9_swaps 42 = .ok (.aload_n 0, 1) := by decide +kernel
theorem dX9_swaps_43 : decode cX9_swaps 43 = .ok (.getfield 19, 3) := by decide +kernel
theorem dX9_swaps_46 : decode cX9_swaps 46 = .ok (.invokevirtual 237, 3) := by decide +kernel
theorem dX9_swaps_49 : decode cX9_swaps 49 = .ok (.ireturn, 1) := by decide +kernel
theorem dX9_close_0 : decode cX9_close 0 = .ok (.iload_n 1, 1) := by decide +kernel
theorem dX9_close_1 : decode cX9_close 1 = .ok (.ifCond .lt 9, 3) := by decide +kernel
theorem dX9_close_4 : decode cX9_close 4 = .ok (.iload_n 1, 1) := by decide +kernel
theorem dX9_close_5 : decode cX9_close 5 = .ok (.bipush 6, 2) := by decide +kernel
theorem dX9_close_7 : decode cX9_close 7 = .ok (.if_icmp .le 6, 3) := by decide +kernel
theorem dX9_close_10 : decode cX9_close 10 = .ok (.ldc 68, 2) := by decide +kernel
theorem dX9_close_12 : decode cX9_close 12 = .ok (.ireturn, 1) := by decide +kernel
theorem dX9_close_13 : decode cX9_close 13 = .ok (.aload_n 0, 1) := by decide +kernel
theorem dX9_close_14 : decode cX9_close 14 = .ok (.getfield 60, 3) := by decide +kernel
theorem dX9_close_17 : decode cX9_close 17 = .ok (.aload_n 0, 1) := by decide +kernel
theorem dX9_close_18 : decode cX9_close 18 = .ok (.getfield 19, 3) := by decide +kernel
theorem dX9_close_21 : decode cX9_close 21 = .ok (.iload_n 1, 1) := by decide +kernel
theorem dX9_close_22 : decode cX9_close 22 = .ok (.invokestatic 122, 3) := by decide +kernel
theorem dX9_close_25 : decode cX9_close 25 = .ok (.ireturn, 1) := by decide +kernel
theorem dX9_look_0 : decode cX9_look 0 = .ok (.iload_n 1, 1) := by decide +kernel
theorem dX9_look_1 : decode cX9_look 1 = .ok (.ifCond .lt 18, 3) := by decide +kernel
theorem dX9_look_4 : decode cX9_look 4 = .ok (.iload_n 1, 1) := by decide +kernel
theorem dX9_look_5 : decode cX9_look 5 = .ok (.bipush 63, 2) := by decide +kernel
theorem dX9_look_7 : decode cX9_look 7 = .ok (.if_icmp .gt 12, 3) := by decide +kernel
theorem dX9_look_10 : decode cX9_look 10 = .ok (.iload_n 2, 1) := by decide +kernel
theorem dX9_look_11 : decode cX9_look 11 = .ok (.ifCond .lt 8, 3) := by decide +kernel
theorem dX9_look_14 : decode cX9_look 14 = .ok (.iload_n 2, 1) := by decide +kernel
theorem dX9_look_15 : decode cX9_look 15 = .ok (.iconst 1, 1) := by decide +kernel
theorem dX9_look_16 : decode cX9_look 16 = .ok (.if_icmp .le 6, 3) := by decide +kernel
theorem dX9_look_19 : decode cX9_look 19 = .ok (.ldc 68, 2) := by decide +kernel
theorem dX9_look_21 : decode cX9_look 21 = .ok (.ireturn, 1) := by decide +kernel
theorem dX9_look_22 : decode cX9_look 22 = .ok (.aload_n 0, 1) := by decide +kernel
theorem dX9_look_23 : decode cX9_look 23 = .ok (.getfield 60, 3) := by decide +kernel
theorem dX9_look_26 : decode cX9_look 26 = .ok (.aload_n 0, 1) := by decide +kernel
theorem dX9_look_27 : decode cX9_look 27 = .ok (.getfield 19, 3) := by decide +kernel
theorem dX9_look_30 : decode cX9_look 30 = .ok (.iload_n 1, 1) := by decide +kernel
theorem dX9_look_31 : decode cX9_look 31 = .ok (.invokestatic 240, 3) := by decide +kernel
theorem dX9_look_34 : decode cX9_look 34 = .ok (.istore_n 3, 1) := by decide +kernel
theorem dX9_look_35 : decode cX9_look 35 = .ok (.iload_n 2, 1) := by decide +kernel
theorem dX9_look_36 : decode cX9_look 36 = .ok (.ifCond .ne 7, 3) := by decide +kernel
theorem dX9_look_39 : decode cX9_look 39 = .ok (.iload_n 3, 1) := by decide +kernel
theorem dX9_look_40 : decode cX9_look 40 = .ok (.goto 15, 3) := by decide +kernel
theorem dX9_look_43 : decode cX9_look 43 = .ok (.aload_n 0, 1) := by decide +kernel
theorem dX9_look_44 : decode cX9_look 44 = .ok (.getfield 60, 3) := by decide +kernel
theorem dX9_look_47 : decode cX9_look 47 = .ok (.aload_n 0, 1) := by decide +kernel
theorem dX9_look_48 : decode cX9_look 48 = .ok (.getfield 19, 3) := by decide +kernel
theorem dX9_look_51 : decode cX9_look 51 = .ok (.iload_n 3, 1) := by decide +kernel
theorem dX9_look_52 : decode cX9_look 52 = .ok (.invokestatic 243, 3) := by decide +kernel
theorem dX9_look_55 : decode cX9_look 55 = .ok (.ireturn, 1) := by decide +kernel
theorem dX9_agreed_0 : decode cX9_agreed 0 = .ok (.iload_n 1, 1) := by decide +kernel
theorem dX9_agreed_1 : decode cX9_agreed 1 = .ok (.ifCond .lt 14, 3) := by decide +kernel
theorem dX9_agreed_4 : decode cX9_agreed 4 = .ok (.iload_n 1, 1) := by decide +kernel
theorem dX9_agreed_5 : decode cX9_agreed 5 = .ok (.aload_n 0, 1) := by decide +kernel
theorem dX9_agreed_6 : decode cX9_agreed 6 = .ok (.getfield 60, 3) := by decide +kernel
theorem dX9_agreed_9 : decode cX9_agreed 9 = .ok (.invokevirtual 246, 3) := by decide +kernel
theorem dX9_agreed_12 : decode cX9_agreed 12 = .ok (.if_icmp .le 6, 3) := by decide +kernel
theorem dX9_agreed_15 : decode cX9_agreed 15 = .ok (.ldc 157, 2) := by decide +kernel
theorem dX9_agreed_17 : decode cX9_agreed 17 = .ok (.ireturn, 1) := by decide +kernel
theorem dX9_agreed_18 : decode cX9_agreed 18 = .ok (.aload_n 0, 1) := by decide +kernel
theorem dX9_agreed_19 : decode cX9_agreed 19 = .ok (.invokevirtual 141, 3) := by decide +kernel
theorem dX9_agreed_22 : decode cX9_agreed 22 = .ok (.ifCond .eq 26, 3) := by decide +kernel
theorem dX9_agreed_25 : decode cX9_agreed 25 = .ok (.aload_n 0, 1) := by decide +kernel
theorem dX9_agreed_26 : decode cX9_agreed 26 = .ok (.getfield 60, 3) := by decide +kernel
theorem dX9_agreed_29 : decode cX9_agreed 29 = .ok (.getfield 249, 3) := by decide +kernel
theorem dX9_agreed_32 : decode cX9_agreed 32 = .ok (.iload_n 1, 1) := by decide +kernel
theorem dX9_agreed_33 : decode cX9_agreed 33 = .ok (.iaload, 1) := by decide +kernel
theorem dX9_agreed_34 : decode cX9_agreed 34 = .ok (.aload_n 0, 1) := by decide +kernel
theorem dX9_agreed_35 : decode cX9_agreed 35 = .ok (.getfield 60, 3) := by decide +kernel
theorem dX9_agreed_38 : decode cX9_agreed 38 = .ok (.getfield 109, 3) := by decide +kernel
theorem dX9_agreed_41 : decode cX9_agreed 41 = .ok (.if_icmp .lt 7, 3) := by decide +kernel
theorem dX9_agreed_44 : decode cX9_agreed 44 = .ok (.iconst 1, 1) := by decide +kernel
theorem dX9_agreed_45 : decode cX9_agreed 45 = .ok (.goto 4, 3) := by decide +kernel
theorem dX9_agreed_48 : decode cX9_agreed 48 = .ok (.iconst 0, 1) := by decide +kernel
theorem dX9_agreed_49 : decode cX9_agreed 49 = .ok (.ireturn, 1) := by decide +kernel
theorem dX9_agenda_0 : decode cX9_agenda 0 = .ok (.iload_n 1, 1) := by decide +kernel
theorem dX9_agenda_1 : decode cX9_agenda 1 = .ok (.invokestatic 252, 3) := by decide +kernel
theorem dX9_agenda_4 : decode cX9_agenda 4 = .ok (.ifCond .eq 15, 3) := by decide +kernel
theorem dX9_agenda_7 : decode cX9_agenda 7 = .ok (.iload_n 2, 1) := by decide +kernel
theorem dX9_agenda_8 : decode cX9_agenda 8 = .ok (.invokestatic 252, 3) := by decide +kernel
theorem dX9_agenda_11 : decode cX9_agenda 11 = .ok (.ifCond .eq 8, 3) := by decide +kernel
theorem dX9_agenda_14 : decode cX9_agenda 14 = .ok (.iload_n 1, 1) := by decide +kernel
theorem dX9_agenda_15 : decode cX9_agenda 15 = .ok (.iload_n 2, 1) := by decide +kernel
theorem dX9_agenda_16 : decode cX9_agenda 16 = .ok (.if_icmp .ne 6, 3) := by decide +kernel
theorem dX9_agenda_19 : decode cX9_agenda 19 = .ok (.ldc 68, 2) := by decide +kernel
theorem dX9_agenda_21 : decode cX9_agenda 21 = .ok (.ireturn, 1) := by decide +kernel
theorem dX9_agenda_22 : decode cX9_agenda 22 = .ok (.aload_n 0, 1) := by decide +kernel
theorem dX9_agenda_23 : decode cX9_agenda 23 = .ok (.invokevirtual 141, 3) := by decide +kernel
theorem dX9_agenda_26 : decode cX9_agenda 26 = .ok (.ifCond .ne 6, 3) := by decide +kernel
theorem dX9_agenda_29 : decode cX9_agenda 29 = .ok (.ldc 193, 2) := by decide +kernel
theorem dX9_agenda_31 : decode cX9_agenda 31 = .ok (.ireturn, 1) := by decide +kernel
theorem dX9_agenda_32 : decode cX9_agenda 32 = .ok (.aload_n 0, 1) := by decide +kernel
theorem dX9_agenda_33 : decode cX9_agenda 33 = .ok (.getfield 60, 3) := by decide +kernel
theorem dX9_agenda_36 : decode cX9_agenda 36 = .ok (.iload_n 1, 1) := by decide +kernel
theorem dX9_agenda_37 : decode cX9_agenda 37 = .ok (.iload_n 2, 1) := by decide +kernel
theorem dX9_agenda_38 : decode cX9_agenda 38 = .ok (.invokevirtual 255, 3) := by decide +kernel
theorem dX9_agenda_41 : decode cX9_agenda 41 = .ok (.ireturn, 1) := by decide +kernel
theorem dX9_agendaFor_0 : decode cX9_agendaFor 0 = .ok (.iload_n 1, 1) := by decide +kernel
theorem dX9_agendaFor_1 : decode cX9_agendaFor 1 = .ok (.invokestatic 252, 3) := by decide +kernel
theorem dX9_agendaFor_4 : decode cX9_agendaFor 4 = .ok (.ifCond .ne 6, 3) := by decide +kernel
theorem dX9_agendaFor_7 : decode cX9_agendaFor 7 = .ok (.ldc 68, 2) := by decide +kernel
theorem dX9_agendaFor_9 : decode cX9_agendaFor 9 = .ok (.ireturn, 1) := by decide +kernel
theorem dX9_agendaFor_10 : decode cX9_agendaFor 10 = .ok (.aload_n 0, 1) := by decide +kernel
theorem dX9_agendaFor_11 : decode cX9_agendaFor 11 = .ok (.invokevirtual 141, 3) := by decide +kernel
theorem dX9_agendaFor_14 : decode cX9_agendaFor 14 = .ok (.ifCond .ne 6, 3) := by decide +kernel
theorem dX9_agendaFor_17 : decode cX9_agendaFor 17 = .ok (.ldc 193, 2) := by decide +kernel
theorem dX9_agendaFor_19 : decode cX9_agendaFor 19 = .ok (.ireturn, 1) := by decide +kernel
theorem dX9_agendaFor_20 : decode cX9_agendaFor 20 = .ok (.iconst 0, 1) := by decide +kernel
theorem dX9_agendaFor_21 : decode cX9_agendaFor 21 = .ok (.istore_n 2, 1) := by decide +kernel
theorem dX9_agendaFor_22 : decode cX9_agendaFor 22 = .ok (.iload_n 2, 1) := by decide +kernel
theorem dX9_agendaFor_23 : decode cX9_agendaFor 23 = .ok (.iconst 3, 1) := by decide +kernel
theorem dX9_agendaFor_24 : decode cX9_agendaFor 24 = .ok (.if_icmp .ge 44, 3) := by decide +kernel
theorem dX9_agendaFor_27 : decode cX9_agendaFor 27 = .ok (.iload_n 2, 1) := by decide +kernel
theorem dX9_agendaFor_28 : decode cX9_agendaFor 28 = .ok (.iconst 1, 1) := by decide +kernel
theorem dX9_agendaFor_29 : decode cX9_agendaFor 29 = .ok (.iadd, 1) := by decide +kernel
theorem dX9_agendaFor_30 : decode cX9_agendaFor 30 = .ok (.istore_n 3, 1) := by decide +kernel
theorem dX9_agendaFor_31 : decode cX9_agendaFor 31 = .ok (.iload_n 3, 1) := by decide +kernel
theorem dX9_agendaFor_32 : decode cX9_agendaFor 32 = .ok (.iconst 3, 1) := by decide +kernel
theorem dX9_agendaFor_33 : decode cX9_agendaFor 33 = .ok (.if_icmp .ge 29, 3) := by decide +kernel
theorem dX9_agendaFor_36 : decode cX9_agendaFor 36 = .ok (.aload_n 0, 1) := by decide +kernel
theorem dX9_agendaFor_37 : decode cX9_agendaFor 37 = .ok (.getfield 60, 3) := by decide +kernel
theorem dX9_agendaFor_40 : decode cX9_agendaFor 40 = .ok (.iload_n 2, 1) := by decide +kernel
theorem dX9_agendaFor_41 : decode cX9_agendaFor 41 = .ok (.iload_n 3, 1) := by decide +kernel
theorem dX9_agendaFor_42 : decode cX9_agendaFor 42 = .ok (.invokevirtual 255, 3) := by decide +kernel
theorem dX9_agendaFor_45 : decode cX9_agendaFor 45 = .ok (.iload_n 1, 1) := by decide +kernel
theorem dX9_agendaFor_46 : decode cX9_agendaFor 46 = .ok (.if_icmp .ne 10, 3) := by decide +kernel
theorem dX9_agendaFor_49 : decode cX9_agendaFor 49 = .ok (.bipush 10, 2) := by decide +kernel
theorem dX9_agendaFor_51 : decode cX9_agendaFor 51 = .ok (.iload_n 2, 1) := by decide +kernel
theorem dX9_agendaFor_52 : decode cX9_agendaFor 52 = .ok (.imul, 1) := by decide +kernel
theorem dX9_agendaFor_53 : decode cX9_agendaFor 53 = .ok (.iload_n 3, 1) := by decide +kernel
theorem dX9_agendaFor_54 : decode cX9_agendaFor 54 = .ok (.iadd, 1) := by decide +kernel
theorem dX9_agendaFor_55 : decode cX9_agendaFor 55 = .ok (.ireturn, 1) := by decide +kernel
theorem dX9_agendaFor_56 : decode cX9_agendaFor 56 = .ok (.iinc 3 1, 3) := by decide +kernel
theorem dX9_agendaFor_59 : decode cX9_agendaFor 59 = .ok (.goto (-28), 3) := by decide +kernel
theorem dX9_agendaFor_62 : decode cX9_agendaFor 62 = .ok (.iinc 2 1, 3) := by decide +kernel
theorem dX9_agendaFor_65 : decode cX9_agendaFor 65 = .ok (.goto (-43), 3) := by decide +kernel
theorem dX9_agendaFor_68 : decode cX9_agendaFor 68 = .ok (.iconst (-1), 1) := by decide +kernel
theorem dX9_agendaFor_69 : decode cX9_agendaFor 69 = .ok (.ireturn, 1) := by decide +kernel
theorem dX9_wanted_0 : decode cX9_wanted 0 = .ok (.iload_n 1, 1) := by decide +kernel
theorem dX9_wanted_1 : decode cX9_wanted 1 = .ok (.iconst (-1), 1) := by decide +kernel
theorem dX9_wanted_2 : decode cX9_wanted 2 = .ok (.if_icmp .eq 17, 3) := by decide +kernel
theorem dX9_wanted_5 : decode cX9_wanted 5 = .ok (.aload_n 0, 1) := by decide +kernel
theorem dX9_wanted_6 : decode cX9_wanted 6 = .ok (.getfield 60, 3) := by decide +kernel
theorem dX9_wanted_9 : decode cX9_wanted 9 = .ok (.iload_n 1, 1) := by decide +kernel
theorem dX9_wanted_10 : decode cX9_wanted 10 = .ok (.invokevirtual 179, 3) := by decide +kernel
theorem dX9_wanted_13 : decode cX9_wanted 13 = .ok (.ifCond .ne 6, 3) := by decide +kernel
theorem dX9_wanted_16 : decode cX9_wanted 16 = .ok (.ldc 157, 2) := by decide +kernel
theorem dX9_wanted_18 : decode cX9_wanted 18 = .ok (.ireturn, 1) := by decide +kernel
theorem dX9_wanted_19 : decode cX9_wanted 19 = .ok (.aload_n 0, 1) := by decide +kernel
theorem dX9_wanted_20 : decode cX9_wanted 20 = .ok (.getfield 53, 3) := by decide +kernel
theorem dX9_wanted_23 : decode cX9_wanted 23 = .ok (.aload_n 0, 1) := by decide +kernel
theorem dX9_wanted_24 : decode cX9_wanted 24 = .ok (.getfield 60, 3) := by decide +kernel
theorem dX9_wanted_27 : decode cX9_wanted 27 = .ok (.aload_n 0, 1) := by decide +kernel
theorem dX9_wanted_28 : decode cX9_wanted 28 = .ok (.getfield 19, 3) := by decide +kernel
theorem dX9_wanted_31 : decode cX9_wanted 31 = .ok (.invokevirtual 259, 3) := by decide +kernel
theorem dX9_wanted_34 : decode cX9_wanted 34 = .ok (.iload_n 1, 1) := by decide +kernel
theorem dX9_wanted_35 : decode cX9_wanted 35 = .ok (.iconst (-1), 1) := by decide +kernel
theorem dX9_wanted_36 : decode cX9_wanted 36 = .ok (.if_icmp .ne 13, 3) := by decide +kernel
theorem dX9_wanted_39 : decode cX9_wanted 39 = .ok (.aload_n 0, 1) := by decide +kernel
theorem dX9_wanted_40 : decode cX9_wanted 40 = .ok (.getfield 53, 3) := by decide +kernel
theorem dX9_wanted_43 : decode cX9_wanted 43 = .ok (.invokevirtual 263, 3) := by decide +kernel
theorem dX9_wanted_46 : decode cX9_wanted 46 = .ok (.goto 19, 3) := by decide +kernel
theorem dX9_wanted_49 : decode cX9_wanted 49 = .ok (.aload_n 0, 1) := by decide +kernel
theorem dX9_wanted_50 : decode cX9_wanted 50 = .ok (.getfield 53, 3) := by decide +kernel
theorem dX9_wanted_53 : decode cX9_wanted 53 = .ok (.aload_n 0, 1) := by decide +kernel
theorem dX9_wanted_54 : decode cX9_wanted 54 = .ok (.getfield 60, 3) := by decide +kernel
theorem dX9_wanted_57 : decode cX9_wanted 57 = .ok (.aload_n 0, 1) := by decide +kernel
theorem dX9_wanted_58 : decode cX9_wanted 58 = .ok (.getfield 19, 3) := by decide +kernel
theorem dX9_wanted_61 : decode cX9_wanted 61 = .ok (.iload_n 1, 1) := by decide +kernel
theorem dX9_wanted_62 : decode cX9_wanted 62 = .ok (.invokevirtual 266, 3) := by decide +kernel
theorem dX9_wanted_65 : decode cX9_wanted 65 = .ok (.ireturn, 1) := by decide +kernel
theorem dX9_know_0 : decode cX9_know 0 = .ok (.aload_n 0, 1) := by decide +kernel
theorem dX9_know_1 : decode cX9_know 1 = .ok (.getfield 60, 3) := by decide +kernel
theorem dX9_know_4 : decode cX9_know 4 = .ok (.iload_n 1, 1) := by decide +kernel
theorem dX9_know_5 : decode cX9_know 5 = .ok (.invokevirtual 179, 3) := by decide +kernel
theorem dX9_know_8 : decode cX9_know 8 = .ok (.ifCond .ne 6, 3) := by decide +kernel
theorem dX9_know_11 : decode cX9_know 11 = .ok (.ldc 157, 2) := by decide +kernel
theorem dX9_know_13 : decode cX9_know 13 = .ok (.ireturn, 1) := by decide +kernel
theorem dX9_know_14 : decode cX9_know 14 = .ok (.iload_n 2, 1) := by decide +kernel
theorem dX9_know_15 : decode cX9_know 15 = .ok (.iconst (-1), 1) := by decide +kernel
theorem dX9_know_16 : decode cX9_know 16 = .ok (.if_icmp .eq 16, 3) := by decide +kernel
theorem dX9_know_19 : decode cX9_know 19 = .ok (.iload_n 2, 1) := by decide +kernel
theorem dX9_know_20 : decode cX9_know 20 = .ok (.ifCond .lt 9, 3) := by decide +kernel
theorem dX9_know_23 : decode cX9_know 23 = .ok (.iload_n 2, 1) := by decide +kernel
theorem dX9_know_24 : decode cX9_know 24 = .ok (.bipush 20, 2) := by decide +kernel
theorem dX9_know_26 : decode cX9_know 26 = .ok (.if_icmp .le 6, 3) := by decide +kernel
theorem dX9_know_29 : decode cX9_know 29 = .ok (.ldc 68, 2) := by decide +kernel
theorem dX9_know_31 : decode cX9_know 31 = .ok (.ireturn, 1) := by decide +kernel
theorem dX9_know_32 : decode cX9_know 32 = .ok (.iconst 1, 1) := by decide +kernel
theorem dX9_know_33 : decode cX9_know 33 = .ok (.iload_n 1, 1) := by decide +kernel
theorem dX9_know_34 : decode cX9_know 34 = .ok (.ishl, 1) := by decide +kernel
theorem dX9_know_35 : decode cX9_know 35 = .ok (.istore_n 3, 1) := by decide +kernel
theorem dX9_know_36 : decode cX9_know 36 = .ok (.iload_n 2, 1) := by decide +kernel
theorem dX9_know_37 : decode cX9_know 37 = .ok (.iconst (-1), 1) := by decide +kernel
theorem dX9_know_38 : decode cX9_know 38 = .ok (.if_icmp .ne 9, 3) := by decide +kernel
theorem dX9_know_41 : decode cX9_know 41 = .ok (.aload_n 0, 1) := by decide +kernel
theorem dX9_know_42 : decode cX9_know 42 = .ok (.iload_n 3, 1) := by decide +kernel
theorem dX9_know_43 : decode cX9_know 43 = .ok (.invokevirtual 269, 3) := by decide +kernel
theorem dX9_know_46 : decode cX9_know 46 = .ok (.ireturn, 1) := by decide +kernel
theorem dX9_know_47 : decode cX9_know 47 = .ok (.iconst 0, 1) := by decide +kernel
theorem dX9_know_48 : decode cX9_know 48 = .ok (.istore 4, 2) := by decide +kernel
theorem dX9_know_50 : decode cX9_know 50 = .ok (.iload 4, 2) := by decide +kernel
theorem dX9_know_52 : decode cX9_know 52 = .ok (.iload_n 2, 1) := by decide +kernel
theorem dX9_know_53 : decode cX9_know 53 = .ok (.if_icmp .ge 18, 3) := by decide +kernel
theorem dX9_know_56 : decode cX9_know 56 = .ok (.aload_n 0, 1) := by decide +kernel
theorem dX9_know_57 : decode cX9_know 57 = .ok (.getfield 60, 3) := by decide +kernel
theorem dX9_know_60 : decode cX9_know 60 = .ok (.iload_n 3, 1) := by decide +kernel
theorem dX9_know_61 : decode cX9_know 61 = .ok (.invokevirtual 272, 3) := by decide +kernel
theorem dX9_know_64 : decode cX9_know 64 = .ok (.istore_n 3, 1) := by decide +kernel
theorem dX9_know_65 : decode cX9_know 65 = .ok (.iinc 4 1, 3) := by decide +kernel
theorem dX9_know_68 : decode cX9_know 68 = .ok (.goto (-18), 3) := by decide +kernel
theorem dX9_know_71 : decode cX9_know 71 = .ok (.iload_n 3, 1) := by decide +kernel
theorem dX9_know_72 : decode cX9_know 72 = .ok (.ireturn, 1) := by decide +kernel
theorem dX9_parcels_0 : decode cX9_parcels 0 = .ok (.iload_n 1, 1) := by decide +kernel
theorem dX9_parcels_1 : decode cX9_parcels 1 = .ok (.ifCond .lt 19, 3) := by decide +kernel
theorem dX9_parcels_4 : decode cX9_parcels 4 = .ok (.iload_n 1, 1) := by decide +kernel
theorem dX9_parcels_5 : decode cX9_parcels 5 = .ok (.bipush 60, 2) := by decide +kernel
theorem dX9_parcels_7 : decode cX9_parcels 7 = .ok (.if_icmp .gt 13, 3) := by decide +kernel
theorem dX9_parcels_10 : decode cX9_parcels 10 = .ok (.iload_n 2, 1) := by decide +kernel
theorem dX9_parcels_11 : decode cX9_parcels 11 = .ok (.ifCond .lt 9, 3) := by decide +kernel
theorem dX9_parcels_14 : decode cX9_parcels 14 = .ok (.iload_n 2, 1) := by decide +kernel
theorem dX9_parcels_15 : decode cX9_parcels 15 = .ok (.bipush 100, 2) := by decide +kernel
theorem dX9_parcels_17 : decode cX9_parcels 17 = .ok (.if_icmp .le 6, 3) := by decide +kernel
theorem dX9_parcels_20 : decode cX9_parcels 20 = .ok (.ldc 68, 2) := by decide +kernel
theorem dX9_parcels_22 : decode cX9_parcels 22 = .ok (.ireturn, 1) := by decide +kernel
theorem dX9_parcels_23 : decode cX9_parcels 23 = .ok (.ldc2_w 275, 3) := by decide +kernel
theorem dX9_parcels_26 : decode cX9_parcels 26 = .ok (.lstore_n 3, 1) := by decide +kernel
theorem dX9_parcels_27 : decode cX9_parcels 27 = .ok (.iconst 0, 1) := by decide +kernel
theorem dX9_parcels_28 : decode cX9_parcels 28 = .ok (.istore 5, 2) := by decide +kernel
theorem dX9_parcels_30 : decode cX9_parcels 30 = .ok (.iload 5, 2) := by decide +kernel
theorem dX9_parcels_32 : decode cX9_parcels 32 = .ok (.iload_n 1, 1) := by decide +kernel
theorem dX9_parcels_33 : decode cX9_parcels 33 = .ok (.if_icmp .ge 21, 3) := by decide +kernel
theorem dX9_parcels_36 : decode cX9_parcels 36 = .ok (.lload_n 3, 1) := by decide +kernel
theorem dX9_parcels_37 : decode cX9_parcels 37 = .ok (.bipush 100, 2) := by decide +kernel
theorem dX9_parcels_39 : decode cX9_parcels 39 = .ok (.iload_n 2, 1) := by decide +kernel
theorem dX9_parcels_40 : decode cX9_parcels 40 = .ok (.isub, 1) := by decide +kernel
theorem dX9_parcels_41 : decode cX9_parcels 41 = .ok (.i2l, 1) := by decide +kernel
theorem dX9_parcels_42 : decode cX9_parcels 42 = .ok (.lmul, 1) := by decide +kernel
theorem dX9_parcels_43 : decode cX9_parcels 43 = .ok (.ldc2_w 277, 3) := by decide +kernel
theorem dX9_parcels_46 : decode cX9_parcels 46 = .ok (.ldiv, 1) := by decide +kernel
theorem dX9_parcels_47 : decode cX9_parcels 47 = .ok (.lstore_n 3, 1) := by decide +kernel
theorem dX9_parcels_48 : decode cX9_parcels 48 = .ok (.iinc 5 1, 3) := by decide +kernel
theorem dX9_parcels_51 : decode cX9_parcels 51 = .ok (.goto (-21), 3) := by decide +kernel
theorem dX9_parcels_54 : decode cX9_parcels 54 = .ok (.lload_n 3, 1) := by decide +kernel
theorem dX9_parcels_55 : decode cX9_parcels 55 = .ok (.l2i, 1) := by decide +kernel
theorem dX9_parcels_56 : decode cX9_parcels 56 = .ok (.ireturn, 1) := by decide +kernel
theorem dX9_write_0 : decode cX9_write 0 = .ok (.aload_n 0, 1) := by decide +kernel
theorem dX9_write_1 : decode cX9_write 1 = .ok (.getfield 60, 3) := by decide +kernel
theorem dX9_write_4 : decode cX9_write 4 = .ok (.iload_n 1, 1) := by decide +kernel
theorem dX9_write_5 : decode cX9_write 5 = .ok (.invokevirtual 153, 3) := by decide +kernel
theorem dX9_write_8 : decode cX9_write 8 = .ok (.ifCond .eq 14, 3) := by decide +kernel
theorem dX9_write_11 : decode cX9_write 11 = .ok (.aload_n 0, 1) := by decide +kernel
theorem dX9_write_12 : decode cX9_write 12 = .ok (.getfield 60, 3) := by decide +kernel
theorem dX9_write_15 : decode cX9_write 15 = .ok (.iload_n 2, 1) := by decide +kernel
theorem dX9_write_16 : decode cX9_write 16 = .ok (.invokevirtual 179, 3) := by decide +kernel
theorem dX9_write_19 : decode cX9_write 19 = .ok (.ifCond .ne 6, 3) := by decide +kernel
theorem dX9_write_22 : decode cX9_write 22 = .ok (.ldc 157, 2) := by decide +kernel
theorem dX9_write_24 : decode cX9_write 24 = .ok (.ireturn, 1) := by decide +kernel
theorem dX9_write_25 : decode cX9_write 25 = .ok (.aload_n 0, 1) := by decide +kernel
theorem dX9_write_26 : decode cX9_write 26 = .ok (.getfield 33, 3) := by decide +kernel
theorem dX9_write_29 : decode cX9_write 29 = .ok (.getfield 92, 3) := by decide +kernel
theorem dX9_write_32 : decode cX9_write 32 = .ok (.bipush 15, 2) := by decide +kernel
theorem dX9_write_34 : decode cX9_write 34 = .ok (.if_icmp .lt 6, 3) := by decide +kernel
theorem dX9_write_37 : decode cX9_write 37 = .ok (.ldc 73, 2) := by decide +kernel
theorem dX9_write_39 : decode cX9_write 39 = .ok (.ireturn, 1) := by decide +kernel
theorem dX9_write_40 : decode cX9_write 40 = .ok (.aload_n 0, 1) := by decide +kernel
theorem dX9_write_41 : decode cX9_write 41 = .ok (.getfield 33, 3) := by decide +kernel
theorem dX9_write_44 : decode cX9_write 44 = .ok (.iload_n 1, 1) := by decide +kernel
theorem dX9_write_45 : decode cX9_write 45 = .ok (.iload_n 2, 1) := by decide +kernel
theorem dX9_write_46 : decode cX9_write 46 = .ok (.invokevirtual 279, 3) := by decide +kernel
theorem dX9_write_49 : decode cX9_write 49 = .ok (.aload_n 0, 1) := by decide +kernel
theorem dX9_write_50 : decode cX9_write 50 = .ok (.getfield 33, 3) := by decide +kernel
theorem dX9_write_53 : decode cX9_write 53 = .ok (.getfield 92, 3) := by decide +kernel
theorem dX9_write_56 : decode cX9_write 56 = .ok (.ireturn, 1) := by decide +kernel
theorem dX9_tear_0 : decode cX9_tear 0 = .ok (.aload_n 0, 1) := by decide +kernel
theorem dX9_tear_1 : decode cX9_tear 1 = .ok (.getfield 33, 3) := by decide +kernel
theorem dX9_tear_4 : decode cX9_tear 4 = .ok (.getfield 92, 3) := by decide +kernel
theorem dX9_tear_7 : decode cX9_tear 7 = .ok (.istore_n 1, 1) := by decide +kernel
theorem dX9_tear_8 : decode cX9_tear 8 = .ok (.aload_n 0, 1) := by decide +kernel
theorem dX9_tear_9 : decode cX9_tear 9 = .ok (.getfield 33, 3) := by decide +kernel
theorem dX9_tear_12 : decode cX9_tear 12 = .ok (.iconst 0, 1) := by decide +kernel
theorem dX9_tear_13 : decode cX9_tear 13 = .ok (.putfield 92, 3) := by decide +kernel
theorem dX9_tear_16 : decode cX9_tear 16 = .ok (.iload_n 1, 1) := by decide +kernel
theorem dX9_tear_17 : decode cX9_tear 17 = .ok (.ireturn, 1) := by decide +kernel
theorem dX9_judge_0 : decode cX9_judge 0 = .ok (.aload_n 0, 1) := by decide +kernel
theorem dX9_judge_1 : decode cX9_judge 1 = .ok (.getfield 33, 3) := by decide +kernel
theorem dX9_judge_4 : decode cX9_judge 4 = .ok (.aload_n 0, 1) := by decide +kernel
theorem dX9_judge_5 : decode cX9_judge 5 = .ok (.getfield 19, 3) := by decide +kernel
theorem dX9_judge_8 : decode cX9_judge 8 = .ok (.invokevirtual 282, 3) := by decide +kernel
theorem dX9_judge_11 : decode cX9_judge 11 = .ok (.ireturn, 1) := by decide +kernel
theorem dX9_seed_0 : decode cX9_seed 0 = .ok (.iload_n 1, 1) := by decide +kernel
theorem dX9_seed_1 : decode cX9_seed 1 = .ok (.ifCond .ge 6, 3) := by decide +kernel
theorem dX9_seed_4 : decode cX9_seed 4 = .ok (.ldc 68, 2) := by decide +kernel
theorem dX9_seed_6 : decode cX9_seed 6 = .ok (.ireturn, 1) := by decide +kernel
theorem dX9_seed_7 : decode cX9_seed 7 = .ok (.aload_n 0, 1) := by decide +kernel
theorem dX9_seed_8 : decode cX9_seed 8 = .ok (.getfield 286, 3) := by decide +kernel
theorem dX9_seed_11 : decode cX9_seed 11 = .ok (.istore_n 2, 1) := by decide +kernel
theorem dX9_seed_12 : decode cX9_seed 12 = .ok (.aload_n 0, 1) := by decide +kernel
theorem dX9_seed_13 : decode cX9_seed 13 = .ok (.iload_n 1, 1) := by decide +kernel
theorem dX9_seed_14 : decode cX9_seed 14 = .ok (.putfield 286, 3) := by decide +kernel
theorem dX9_seed_17 : decode cX9_seed 17 = .ok (.iload_n 2, 1) := by decide +kernel
theorem dX9_seed_18 : decode cX9_seed 18 = .ok (.ireturn, 1) := by decide +kernel
theorem dX9_keep_0 : decode cX9_keep 0 = .ok (.iload_n 1, 1) := by decide +kernel
theorem dX9_keep_1 : decode cX9_keep 1 = .ok (.ifCond .lt 8, 3) := by decide +kernel
theorem dX9_keep_4 : decode cX9_keep 4 = .ok (.iload_n 1, 1) := by decide +kernel
theorem dX9_keep_5 : decode cX9_keep 5 = .ok (.iconst 2, 1) := by decide +kernel
theorem dX9_keep_6 : decode cX9_keep 6 = .ok (.if_icmp .lt 6, 3) := by decide +kernel
theorem dX9_keep_9 : decode cX9_keep 9 = .ok (.ldc 157, 2) := by decide +kernel
theorem dX9_keep_11 : decode cX9_keep 11 = .ok (.ireturn, 1) := by decide +kernel
theorem dX9_keep_12 : decode cX9_keep 12 = .ok (.aload_n 0, 1) := by decide +kernel
theorem dX9_keep_13 : decode cX9_keep 13 = .ok (.getfield 39, 3) := by decide +kernel
theorem dX9_keep_16 : decode cX9_keep 16 = .ok (.iload_n 1, 1) := by decide +kernel
theorem dX9_keep_17 : decode cX9_keep 17 = .ok (.aaload, 1) := by decide +kernel
theorem dX9_keep_18 : decode cX9_keep 18 = .ok (.astore_n 2, 1) := by decide +kernel
theorem dX9_keep_19 : decode cX9_keep 19 = .ok (.aload_n 2, 1) := by decide +kernel
theorem dX9_keep_20 : decode cX9_keep 20 = .ok (.getfield 289, 3) := by decide +kernel
theorem dX9_keep_23 : decode cX9_keep 23 = .ok (.aload_n 0, 1) := by decide +kernel
theorem dX9_keep_24 : decode cX9_keep 24 = .ok (.getfield 19, 3) := by decide +kernel
theorem dX9_keep_27 : decode cX9_keep 27 = .ok (.invokevirtual 292, 3) := by decide +kernel
theorem dX9_keep_30 : decode cX9_keep 30 = .ok (.aload_n 2, 1) := by decide +kernel
theorem dX9_keep_31 : decode cX9_keep 31 = .ok (.aload_n 0, 1) := by decide +kernel
theorem dX9_keep_32 : decode cX9_keep 32 = .ok (.getfield 286, 3) := by decide +kernel
theorem dX9_keep_35 : decode cX9_keep 35 = .ok (.putfield 295, 3) := by decide +kernel
theorem dX9_keep_38 : decode cX9_keep 38 = .ok (.aload_n 2, 1) := by decide +kernel
theorem dX9_keep_39 : decode cX9_keep 39 = .ok (.iconst 1, 1) := by decide +kernel
theorem dX9_keep_40 : decode cX9_keep 40 = .ok (.putfield 93, 3) := by decide +kernel
theorem dX9_keep_43 : decode cX9_keep 43 = .ok (.aload_n 0, 1) := by decide +kernel
theorem dX9_keep_44 : decode cX9_keep 44 = .ok (.getfield 26, 3) := by decide +kernel
theorem dX9_keep_47 : decode cX9_keep 47 = .ok (.invokevirtual 89, 3) := by decide +kernel
theorem dX9_keep_50 : decode cX9_keep 50 = .ok (.iconst 1, 1) := by decide +kernel
theorem dX9_keep_51 : decode cX9_keep 51 = .ok (.ireturn, 1) := by decide +kernel
theorem dX9_goBack_0 : decode cX9_goBack 0 = .ok (.iload_n 1, 1) := by decide +kernel
theorem dX9_goBack_1 : decode cX9_goBack 1 = .ok (.ifCond .lt 8, 3) := by decide +kernel
theorem dX9_goBack_4 : decode cX9_goBack 4 = .ok (.iload_n 1, 1) := by decide +kernel
theorem dX9_goBack_5 : decode cX9_goBack 5 = .ok (.iconst 2, 1) := by decide +kernel
theorem dX9_goBack_6 : decode cX9_goBack 6 = .ok (.if_icmp .lt 6, 3) := by decide +kernel
theorem dX9_goBack_9 : decode cX9_goBack 9 = .ok (.ldc 157, 2) := by decide +kernel
theorem dX9_goBack_11 : decode cX9_goBack 11 = .ok (.ireturn, 1) := by decide +kernel
theorem dX9_goBack_12 : decode cX9_goBack 12 = .ok (.aload_n 0, 1) := by decide +kernel
theorem dX9_goBack_13 : decode cX9_goBack 13 = .ok (.getfield 39, 3) := by decide +kernel
theorem dX9_goBack_16 : decode cX9_goBack 16 = .ok (.iload_n 1, 1) := by decide +kernel
theorem dX9_goBack_17 : decode cX9_goBack 17 = .ok (.aaload, 1) := by decide +kernel
theorem dX9_goBack_18 : decode cX9_goBack 18 = .ok (.astore_n 2, 1) := by decide +kernel
theorem dX9_goBack_19 : decode cX9_goBack 19 = .ok (.aload_n 2, 1) := by decide +kernel
theorem dX9_goBack_20 : decode cX9_goBack 20 = .ok (.getfield 93, 3) := by decide +kernel
theorem dX9_goBack_23 : decode cX9_goBack 23 = .ok (.ifCond .ne 6, 3) := by decide +kernel
theorem dX9_goBack_26 : decode cX9_goBack 26 = .ok (.ldc 193, 2) := by decide +kernel
theorem dX9_goBack_28 : decode cX9_goBack 28 = .ok (.ireturn, 1) := by decide +kernel
theorem dX9_goBack_29 : decode cX9_goBack 29 = .ok (.aload_n 0, 1) := by decide +kernel
theorem dX9_goBack_30 : decode cX9_goBack 30 = .ok (.getfield 19, 3) := by decide +kernel
theorem dX9_goBack_33 : decode cX9_goBack 33 = .ok (.aload_n 2, 1) := by decide +kernel
theorem dX9_goBack_34 : decode cX9_goBack 34 = .ok (.getfield 289, 3) := by decide +kernel
theorem dX9_goBack_37 : decode cX9_goBack 37 = .ok (.invokevirtual 292, 3) := by decide +kernel
theorem dX9_goBack_40 : decode cX9_goBack 40 = .ok (.aload_n 0, 1) := by decide +kernel
theorem dX9_goBack_41 : decode cX9_goBack 41 = .ok (.aload_n 2, 1) := by decide +kernel
theorem dX9_goBack_42 : decode cX9_goBack 42 = .ok (.getfield 295, 3) := by decide +kernel
theorem dX9_goBack_45 : decode cX9_goBack 45 = .ok (.putfield 286, 3) := by decide +kernel
theorem dX9_goBack_48 : decode cX9_goBack 48 = .ok (.aload_n 0, 1) := by decide +kernel
theorem dX9_goBack_49 : decode cX9_goBack 49 = .ok (.getfield 26, 3) := by decide +kernel
theorem dX9_goBack_52 : decode cX9_goBack 52 = .ok (.invokevirtual 89, 3) := by decide +kernel
theorem dX9_goBack_55 : decode cX9_goBack 55 = .ok (.iconst 1, 1) := by decide +kernel
theorem dX9_goBack_56 : decode cX9_goBack 56 = .ok (.ireturn, 1) := by decide +kernel
theorem dX9_hasCongress_0 : decode cX9_hasCongress 0 = .ok (.aload_n 0, 1) := by decide +kernel
theorem dX9_hasCongress_1 : decode cX9_hasCongress 1 = .ok (.getfield 60, 3) := by decide +kernel
theorem dX9_hasCongress_4 : decode cX9_hasCongress 4 = .ok (.getfield 103, 3) := by decide +kernel
theorem dX9_hasCongress_7 : decode cX9_hasCongress 7 = .ok (.ifCond .le 7, 3) := by decide +kernel
theorem dX9_hasCongress_10 : decode cX9_hasCongress 10 = .ok (.iconst 1, 1) := by decide +kernel
theorem dX9_hasCongress_11 : decode cX9_hasCongress 11 = .ok (.goto 4, 3) := by decide +kernel
theorem dX9_hasCongress_14 : decode cX9_hasCongress 14 = .ok (.iconst 0, 1) := by decide +kernel
theorem dX9_hasCongress_15 : decode cX9_hasCongress 15 = .ok (.ireturn, 1) := by decide +kernel
theorem dX9_isThing_0 : decode cX9_isThing 0 = .ok (.iload_n 0, 1) := by decide +kernel
theorem dX9_isThing_1 : decode cX9_isThing 1 = .ok (.ifCond .lt 12, 3) := by decide +kernel
theorem dX9_isThing_4 : decode cX9_isThing 4 = .ok (.iload_n 0, 1) := by decide +kernel
theorem dX9_isThing_5 : decode cX9_isThing 5 = .ok (.iconst 3, 1) := by decide +kernel
theorem dX9_isThing_6 : decode cX9_isThing 6 = .ok (.if_icmp .ge 7, 3) := by decide +kernel
theorem dX9_isThing_9 : decode cX9_isThing 9 = .ok (.iconst 1, 1) := by decide +kernel
theorem dX9_isThing_10 : decode cX9_isThing 10 = .ok (.goto 4, 3) := by decide +kernel
theorem dX9_isThing_13 : decode cX9_isThing 13 = .ok (.iconst 0, 1) := by decide +kernel
theorem dX9_isThing_14 : decode cX9_isThing 14 = .ok (.ireturn, 1) := by decide +kernel
theorem dX9_dollsWith_0 : decode cX9_dollsWith 0 = .ok (.iconst 0, 1) := by decide +kernel
theorem dX9_dollsWith_1 : decode cX9_dollsWith 1 = .ok (.istore_n 3, 1) := by decide +kernel
theorem dX9_dollsWith_2 : decode cX9_dollsWith 2 = .ok (.iconst 0, 1) := by decide +kernel
theorem dX9_dollsWith_3 : decode cX9_dollsWith 3 = .ok (.istore 4, 2) := by decide +kernel
theorem dX9_dollsWith_5 : decode cX9_dollsWith 5 = .ok (.iload 4, 2) := by decide +kernel
theorem dX9_dollsWith_7 : decode cX9_dollsWith 7 = .ok (.aload_n 0, 1) := by decide +kernel
theorem dX9_dollsWith_8 : decode cX9_dollsWith 8 = .ok (.getfield 60, 3) := by decide +kernel
theorem dX9_dollsWith_11 : decode cX9_dollsWith 11 = .ok (.getfield 97, 3) := by decide +kernel
theorem dX9_dollsWith_14 : decode cX9_dollsWith 14 = .ok (.if_icmp .ge 24, 3) := by decide +kernel
theorem dX9_dollsWith_17 : decode cX9_dollsWith 17 = .ok (.aload_n 1, 1) := by decide +kernel
theorem dX9_dollsWith_18 : decode cX9_dollsWith 18 = .ok (.iload 4, 2) := by decide +kernel
theorem dX9_dollsWith_20 : decode cX9_dollsWith 20 = .ok (.iaload, 1) := by decide +kernel
theorem dX9_dollsWith_21 : decode cX9_dollsWith 21 = .ok (.iload_n 2, 1) := by decide +kernel
theorem dX9_dollsWith_22 : decode cX9_dollsWith 22 = .ok (.if_icmp .ne 10, 3) := by decide +kernel
theorem dX9_dollsWith_25 : decode cX9_dollsWith 25 = .ok (.iload_n 3, 1) := by decide +kernel
theorem dX9_dollsWith_26 : decode cX9_dollsWith 26 = .ok (.iconst 1, 1) := by decide +kernel
theorem dX9_dollsWith_27 : decode cX9_dollsWith 27 = .ok (.iload 4, 2) := by decide +kernel
theorem dX9_dollsWith_29 : decode cX9_dollsWith 29 = .ok (.ishl, 1) := by decide +kernel
theorem dX9_dollsWith_30 : decode cX9_dollsWith 30 = .ok (.ior, 1) := by decide +kernel
theorem dX9_dollsWith_31 : decode cX9_dollsWith 31 = .ok (.istore_n 3, 1) := by decide +kernel
theorem dX9_dollsWith_32 : decode cX9_dollsWith 32 = .ok (.iinc 4 1, 3) := by decide +kernel
theorem dX9_dollsWith_35 : decode cX9_dollsWith 35 = .ok (.goto (-30), 3) := by decide +kernel
theorem dX9_dollsWith_38 : decode cX9_dollsWith 38 = .ok (.iload_n 3, 1) := by decide +kernel
theorem dX9_dollsWith_39 : decode cX9_dollsWith 39 = .ok (.ireturn, 1) := by decide +kernel
theorem dX9_refusalOfYears_0 : decode cX9_refusalOfYears 0 = .ok (.iload_n 1, 1) := by decide +kernel
theorem dX9_refusalOfYears_1 : decode cX9_refusalOfYears 1 = .ok (.iconst 1, 1) := by decide +kernel
theorem dX9_refusalOfYears_2 : decode cX9_refusalOfYears 2 = .ok (.if_icmp .lt 9, 3) := by decide +kernel
theorem dX9_refusalOfYears_5 : decode cX9_refusalOfYears 5 = .ok (.iload_n 1, 1) := by decide +kernel
theorem dX9_refusalOfYears_6 : decode cX9_refusalOfYears 6 = .ok (.bipush 60, 2) := by decide +kernel
theorem dX9_refusalOfYears_8 : decode cX9_refusalOfYears 8 = .ok (.if_icmp .le 6, 3) := by decide +kernel
theorem dX9_refusalOfYears_11 : decode cX9_refusalOfYears 11 = .ok (.ldc 68, 2) := by decide +kernel
theorem dX9_refusalOfYears_13 : decode cX9_refusalOfYears 13 = .ok (.ireturn, 1) := by decide +kernel
theorem dX9_refusalOfYears_14 : decode cX9_refusalOfYears 14 = .ok (.aload_n 0, 1) := by decide +kernel
theorem dX9_refusalOfYears_15 : decode cX9_refusalOfYears 15 = .ok (.invokevirtual 141, 3) := by decide +kernel
theorem dX9_refusalOfYears_18 : decode cX9_refusalOfYears 18 = .ok (.ifCond .ne 6, 3) := by decide +kernel
theorem dX9_refusalOfYears_21 : decode cX9_refusalOfYears 21 = .ok (.ldc 193, 2) := by decide +kernel
theorem dX9_refusalOfYears_23 : decode cX9_refusalOfYears 23 = .ok (.ireturn, 1) := by decide +kernel
theorem dX9_refusalOfYears_24 : decode cX9_refusalOfYears 24 = .ok (.aload_n 0, 1) := by decide +kernel
theorem dX9_refusalOfYears_25 : decode cX9_refusalOfYears 25 = .ok (.getfield 19, 3) := by decide +kernel
theorem dX9_refusalOfYears_28 : decode cX9_refusalOfYears 28 = .ok (.getfield 112, 3) := by decide +kernel
theorem dX9_refusalOfYears_31 : decode cX9_refusalOfYears 31 = .ok (.sipush 9000, 3) := by decide +kernel
theorem dX9_refusalOfYears_34 : decode cX9_refusalOfYears 34 = .ok (.if_icmp .le 8, 3) := by decide +kernel
theorem dX9_refusalOfYears_37 : decode cX9_refusalOfYears 37 = .ok (.ldc 73, 2) := by decide +kernel
theorem dX9_refusalOfYears_39 : decode cX9_refusalOfYears 39 = .ok (.goto 4, 3) := by decide +kernel
theorem dX9_refusalOfYears_42 : decode cX9_refusalOfYears 42 = .ok (.iconst 0, 1) := by decide +kernel
theorem dX9_refusalOfYears_43 : decode cX9_refusalOfYears 43 = .ok (.ireturn, 1) := by decide +kernel
theorem dX9_draw_0 : decode cX9_draw 0 = .ok (.aload_n 0, 1) := by decide +kernel
theorem dX9_draw_1 : decode cX9_draw 1 = .ok (.aload_n 0, 1) := by decide +kernel
theorem dX9_draw_2 : decode cX9_draw 2 = .ok (.getfield 286, 3) := by decide +kernel
theorem dX9_draw_5 : decode cX9_draw 5 = .ok (.ldc_w 296, 3) := by decide +kernel
theorem dX9_draw_8 : decode cX9_draw 8 = .ok (.imul, 1) := by decide +kernel
theorem dX9_draw_9 : decode cX9_draw 9 = .ok (.sipush 12345, 3) := by decide +kernel
theorem dX9_draw_12 : decode cX9_draw 12 = .ok (.iadd, 1) := by decide +kernel
theorem dX9_draw_13 : decode cX9_draw 13 = .ok (.ldc_w 297, 3) := by decide +kernel
theorem dX9_draw_16 : decode cX9_draw 16 = .ok (.iand, 1) := by decide +kernel
theorem dX9_draw_17 : decode cX9_draw 17 = .ok (.putfield 286, 3) := by decide +kernel
theorem dX9_draw_20 : decode cX9_draw 20 = .ok (.iload_n 1, 1) := by decide +kernel
theorem dX9_draw_21 : decode cX9_draw 21 = .ok (.ifCond .le 16, 3) := by decide +kernel
theorem dX9_draw_24 : decode cX9_draw 24 = .ok (.aload_n 0, 1) := by decide +kernel
theorem dX9_draw_25 : decode cX9_draw 25 = .ok (.getfield 286, 3) := by decide +kernel
theorem dX9_draw_28 : decode cX9_draw 28 = .ok (.ldc_w 298, 3) := by decide +kernel
theorem dX9_draw_31 : decode cX9_draw 31 = .ok (.idiv, 1) := by decide +kernel
theorem dX9_draw_32 : decode cX9_draw 32 = .ok (.iload_n 1, 1) := by decide +kernel
theorem dX9_draw_33 : decode cX9_draw 33 = .ok (.irem, 1) := by decide +kernel
theorem dX9_draw_34 : decode cX9_draw 34 = .ok (.goto 4, 3) := by decide +kernel
theorem dX9_draw_37 : decode cX9_draw 37 = .ok (.iconst 0, 1) := by decide +kernel
theorem dX9_draw_38 : decode cX9_draw 38 = .ok (.ireturn, 1) := by decide +kernel
theorem dX9_meddle_0 : decode cX9_meddle 0 = .ok (.aload_n 0, 1) := by decide +kernel
theorem dX9_meddle_1 : decode cX9_meddle 1 = .ok (.iconst 5, 1) := by decide +kernel
theorem dX9_meddle_2 : decode cX9_meddle 2 = .ok (.invokevirtual 299, 3) := by decide +kernel
theorem dX9_meddle_5 : decode cX9_meddle 5 = .ok (.istore_n 1, 1) := by decide +kernel
theorem dX9_meddle_6 : decode cX9_meddle 6 = .ok (.aload_n 0, 1) := by decide +kernel
theorem dX9_meddle_7 : decode cX9_meddle 7 = .ok (.aload_n 0, 1) := by decide +kernel
theorem dX9_meddle_8 : decode cX9_meddle 8 = .ok (.getfield 60, 3) := by decide +kernel
theorem dX9_meddle_11 : decode cX9_meddle 11 = .ok (.getfield 97, 3) := by decide +kernel
theorem dX9_meddle_14 : decode cX9_meddle 14 = .ok (.invokevirtual 299, 3) := by decide +kernel
theorem dX9_meddle_17 : decode cX9_meddle 17 = .ok (.istore_n 2, 1) := by decide +kernel
theorem dX9_meddle_18 : decode cX9_meddle 18 = .ok (.iload_n 1, 1) := by decide +kernel
theorem dX9_meddle_19 : decode cX9_meddle 19 = .ok (.tableswitch 120 0 3 #[29, 66, 98, 109], 29) := by decide +kernel
theorem dX9_meddle_48 : decode cX9_meddle 48 = .ok (.aload_n 0, 1) := by decide +kernel
theorem dX9_meddle_49 : decode cX9_meddle 49 = .ok (.aload_n 0, 1) := by decide +kernel
theorem dX9_meddle_50 : decode cX9_meddle 50 = .ok (.getfield 60, 3) := by decide +kernel
theorem dX9_meddle_53 : decode cX9_meddle 53 = .ok (.getfield 103, 3) := by decide +kernel
theorem dX9_meddle_56 : decode cX9_meddle 56 = .ok (.invokevirtual 299, 3) := by decide +kernel
theorem dX9_meddle_59 : decode cX9_meddle 59 = .ok (.istore_n 3, 1) := by decide +kernel
theorem dX9_meddle_60 : decode cX9_meddle 60 = .ok (.aload_n 0, 1) := by decide +kernel
theorem dX9_meddle_61 : decode cX9_meddle 61 = .ok (.getfield 19, 3) := by decide +kernel
theorem dX9_meddle_64 : decode cX9_meddle 64 = .ok (.getfield 164, 3) := by decide +kernel
theorem dX9_meddle_67 : decode cX9_meddle 67 = .ok (.iload_n 2, 1) := by decide +kernel
theorem dX9_meddle_68 : decode cX9_meddle 68 = .ok (.iaload, 1) := by decide +kernel
theorem dX9_meddle_69 : decode cX9_meddle 69 = .ok (.iload_n 3, 1) := by decide +kernel
theorem dX9_meddle_70 : decode cX9_meddle 70 = .ok (.if_icmp .eq 81, 3) := by decide +kernel
theorem dX9_meddle_73 : decode cX9_meddle 73 = .ok (.aload_n 0, 1) := by decide +kernel
theorem dX9_meddle_74 : decode cX9_meddle 74 = .ok (.getfield 19, 3) := by decide +kernel
theorem dX9_meddle_77 : decode cX9_meddle 77 = .ok (.iload_n 2, 1) := by decide +kernel
theorem dX9_meddle_78 : decode cX9_meddle 78 = .ok (.iload_n 3, 1) := by decide +kernel
theorem dX9_meddle_79 : decode cX9_meddle 79 = .ok (.invokevirtual 198, 3) := by decide +kernel
theorem dX9_meddle_82 : decode cX9_meddle 82 = .ok (.goto 69, 3) := by decide +kernel
theorem dX9_meddle_85 : decode cX9_meddle 85 = .ok (.aload_n 0, 1) := by decide +kernel
theorem dX9_meddle_86 : decode cX9_meddle 86 = .ok (.aload_n 0, 1) := by decide +kernel
theorem dX9_meddle_87 : decode cX9_meddle 87 = .ok (.getfield 60, 3) := by decide +kernel
theorem dX9_meddle_90 : decode cX9_meddle 90 = .ok (.getfield 97, 3) := by decide +kernel
theorem dX9_meddle_93 : decode cX9_meddle 93 = .ok (.invokevirtual 299, 3) := by decide +kernel
theorem dX9_meddle_96 : decode cX9_meddle 96 = .ok (.istore 4, 2) := by decide +kernel
theorem dX9_meddle_98 : decode cX9_meddle 98 = .ok (.iload 4, 2) := by decide +kernel
theorem dX9_meddle_100 : decode cX9_meddle 100 = .ok (.iload_n 2, 1) := by decide +kernel
theorem dX9_meddle_101 : decode cX9_meddle 101 = .ok (.if_icmp .eq 50, 3) := by decide +kernel
theorem dX9_meddle_104 : decode cX9_meddle 104 = .ok (.aload_n 0, 1) := by decide +kernel
theorem dX9_meddle_105 : decode cX9_meddle 105 = .ok (.getfield 19, 3) := by decide +kernel
theorem dX9_meddle_108 : decode cX9_meddle 108 = .ok (.iload_n 2, 1) := by decide +kernel
theorem dX9_meddle_109 : decode cX9_meddle 109 = .ok (.iload 4, 2) := by decide +kernel
theorem dX9_meddle_111 : decode cX9_meddle 111 = .ok (.invokevirtual 202, 3) := by decide +kernel
theorem dX9_meddle_114 : decode cX9_meddle 114 = .ok (.goto 37, 3) := by decide +kernel
theorem dX9_meddle_117 : decode cX9_meddle 117 = .ok (.aload_n 0, 1) := by decide +kernel
theorem dX9_meddle_118 : decode cX9_meddle 118 = .ok (.getfield 19, 3) := by decide +kernel
theorem dX9_meddle_121 : decode cX9_meddle 121 = .ok (.iload_n 2, 1) := by decide +kernel
theorem dX9_meddle_122 : decode cX9_meddle 122 = .ok (.invokevirtual 209, 3) := by decide +kernel
theorem dX9_meddle_125 : decode cX9_meddle 125 = .ok (.goto 26, 3) := by decide +kernel
theorem dX9_meddle_128 : decode cX9_meddle 128 = .ok (.aload_n 0, 1) := by decide +kernel
theorem dX9_meddle_129 : decode cX9_meddle 129 = .ok (.getfield 19, 3) := by decide +kernel
theorem dX9_meddle_132 : decode cX9_meddle 132 = .ok (.iload_n 2, 1) := by decide +kernel
theorem dX9_meddle_133 : decode cX9_meddle 133 = .ok (.invokevirtual 205, 3) := by decide +kernel
theorem dX9_meddle_136 : decode cX9_meddle 136 = .ok (.goto 15, 3) := by decide +kernel
theorem dX9_meddle_139 : decode cX9_meddle 139 = .ok (.aload_n 0, 1) := by decide +kernel
theorem dX9_meddle_140 : decode cX9_meddle 140 = .ok (.getfield 19, 3) := by decide +kernel
theorem dX9_meddle_143 : decode cX9_meddle 143 = .ok (.aload_n 0, 1) := by decide +kernel
theorem dX9_meddle_144 : decode cX9_meddle 144 = .ok (.getfield 60, 3) := by decide +kernel
theorem dX9_meddle_147 : decode cX9_meddle 147 = .ok (.invokevirtual 212, 3) := by decide +kernel
theorem dX9_meddle_150 : decode cX9_meddle 150 = .ok (.pop, 1) := by decide +kernel
theorem dX9_meddle_151 : decode cX9_meddle 151 = .ok (.return_, 1) := by decide +kernel
theorem dX9_yearsUntilAllKnow_0 : decode cX9_yearsUntilAllKnow 0 = .ok (.iload_n 1, 1) := by decide +kernel
theorem dX9_yearsUntilAllKnow_1 : decode cX9_yearsUntilAllKnow 1 = .ok (.istore_n 2, 1) := by decide +kernel
theorem dX9_yearsUntilAllKnow_2 : decode cX9_yearsUntilAllKnow 2 = .ok (.iconst 0, 1) := by decide +kernel
theorem dX9_yearsUntilAllKnow_3 : decode cX9_yearsUntilAllKnow 3 = .ok (.istore_n 3, 1) := by decide +kernel
theorem dX9_yearsUntilAllKnow_4 : decode cX9_yearsUntilAllKnow 4 = .ok (.iload_n 3, 1) := by decide +kernel
theorem dX9_yearsUntilAllKnow_5 : decode cX9_yearsUntilAllKnow 5 = .ok (.bipush 7, 2) := by decide +kernel
theorem dX9_yearsUntilAllKnow_7 : decode cX9_yearsUntilAllKnow 7 = .ok (.if_icmp .ge 29, 3) := by decide +kernel
theorem dX9_yearsUntilAllKnow_10 : decode cX9_yearsUntilAllKnow 10 = .ok (.iload_n 2, 1) := by decide +kernel
theorem dX9_yearsUntilAllKnow_11 : decode cX9_yearsUntilAllKnow 11 = .ok (.aload_n 0, 1) := by decide +kernel
theorem dX9_yearsUntilAllKnow_12 : decode cX9_yearsUntilAllKnow 12 = .ok (.getfield 60, 3) := by decide +kernel
theorem dX9_yearsUntilAllKnow_15 : decode cX9_yearsUntilAllKnow 15 = .ok (.invokevirtual 246, 3) := by decide +kernel
theorem dX9_yearsUntilAllKnow_18 : decode cX9_yearsUntilAllKnow 18 = .ok (.if_icmp .eq 18, 3) := by decide +kernel
theorem dX9_yearsUntilAllKnow_21 : decode cX9_yearsUntilAllKnow 21 = .ok (.aload_n 0, 1) := by decide +kernel
theorem dX9_yearsUntilAllKnow_22 : decode cX9_yearsUntilAllKnow 22 = .ok (.getfield 60, 3) := by decide +kernel
theorem dX9_yearsUntilAllKnow_25 : decode cX9_yearsUntilAllKnow 25 = .ok (.iload_n 2, 1) := by decide +kernel
theorem dX9_yearsUntilAllKnow_26 : decode cX9_yearsUntilAllKnow 26 = .ok (.invokevirtual 272, 3) := by decide +kernel
theorem dX9_yearsUntilAllKnow_29 : decode cX9_yearsUntilAllKnow 29 = .ok (.istore_n 2, 1) := by decide +kernel
theorem dX9_yearsUntilAllKnow_30 : decode cX9_yearsUntilAllKnow 30 = .ok (.iinc 3 1, 3) := by decide +kernel
theorem dX9_yearsUntilAllKnow_33 : decode cX9_yearsUntilAllKnow 33 = .ok (.goto (-29), 3) := by decide +kernel
theorem dX9_yearsUntilAllKnow_36 : decode cX9_yearsUntilAllKnow 36 = .ok (.iload_n 3, 1) := by decide +kernel
theorem dX9_yearsUntilAllKnow_37 : decode cX9_yearsUntilAllKnow 37 = .ok (.ireturn, 1) := by decide +kernel
theorem dX10_init_0 : decode cX10_init 0 = .ok (.aload_n 0, 1) := by decide +kernel
theorem dX10_init_1 : decode cX10_init 1 = .ok (.invokespecial 1, 3) := by decide +kernel
theorem dX10_init_4 : decode cX10_init 4 = .ok (.aload_n 0, 1) := by decide +kernel
theorem dX10_init_5 : decode cX10_init 5 = .ok (.bipush 7, 2) := by decide +kernel
theorem dX10_init_7 : decode cX10_init 7 = .ok (.newarray .int, 2) := by decide +kernel
theorem dX10_init_9 : decode cX10_init 9 = .ok (.putfield 7, 3) := by decide +kernel
theorem dX10_init_12 : decode cX10_init 12 = .ok (.aload_n 0, 1) := by decide +kernel
theorem dX10_init_13 : decode cX10_init 13 = .ok (.bipush 8, 2) := by decide +kernel
theorem dX10_init_15 : decode cX10_init 15 = .ok (.newarray .int, 2) := by decide +kernel
theorem dX10_init_17 : decode cX10_init 17 = .ok (.putfield 13, 3) := by decide +kernel
theorem dX10_init_20 : decode cX10_init 20 = .ok (.aload_n 0, 1) := by decide +kernel
theorem dX10_init_21 : decode cX10_init 21 = .ok (.bipush 8, 2) := by decide +kernel
theorem dX10_init_23 : decode cX10_init 23 = .ok (.newarray .int, 2) := by decide +kernel
theorem dX10_init_25 : decode cX10_init 25 = .ok (.putfield 16, 3) := by decide +kernel
theorem dX10_init_28 : decode cX10_init 28 = .ok (.aload_n 0, 1) := by decide +kernel
theorem dX10_init_29 : decode cX10_init 29 = .ok (.bipush 8, 2) := by decide +kernel
theorem dX10_init_31 : decode cX10_init 31 = .ok (.newarray .int, 2) := by decide +kernel
theorem dX10_init_33 : decode cX10_init 33 = .ok (.putfield 19, 3) := by decide +kernel
theorem dX10_init_36 : decode cX10_init 36 = .ok (.aload_n 0, 1) := by decide +kernel
theorem dX10_init_37 : decode cX10_init 37 = .ok (.bipush 36, 2) := by decide +kernel
theorem dX10_init_39 : decode cX10_init 39 = .ok (.newarray .int, 2) := by decide +kernel
theorem dX10_init_41 : decode cX10_init 41 = .ok (.putfield 22, 3) := by decide +kernel
theorem dX10_init_44 : decode cX10_init 44 = .ok (.aload_n 0, 1) := by decide +kernel
theorem dX10_init_45 : decode cX10_init 45 = .ok (.sipush 240, 3) := by decide +kernel
theorem dX10_init_48 : decode cX10_init 48 = .ok (.newarray .int, 2) := by decide +kernel
theorem dX10_init_50 : decode cX10_init 50 = .ok (.putfield 25, 3) := by decide +kernel
theorem dX10_init_53 : decode cX10_init 53 = .ok (.aload_n 0, 1) := by decide +kernel
theorem dX10_init_54 : decode cX10_init 54 = .ok (.iconst (-1), 1) := by decide +kernel
theorem dX10_init_55 : decode cX10_init 55 = .ok (.putfield 28, 3) := by decide +kernel
theorem dX10_init_58 : decode cX10_init 58 = .ok (.aload_n 0, 1) := by decide +kernel
theorem dX10_init_59 : decode cX10_init 59 = .ok (.bipush 7, 2) := by decide +kernel
theorem dX10_init_61 : decode cX10_init 61 = .ok (.newarray .int, 2) := by decide +kernel
theorem dX10_init_63 : decode cX10_init 63 = .ok (.putfield 32, 3) := by decide +kernel
theorem dX10_init_66 : decode cX10_init 66 = .ok (.aload_n 0, 1) := by decide +kernel
theorem dX10_init_67 : decode cX10_init 67 = .ok (.bipush 8, 2) := by decide +kernel
theorem dX10_init_69 : decode cX10_init 69 = .ok (.newarray .int, 2) := by decide +kernel
theorem dX10_init_71 : decode cX10_init 71 = .ok (.putfield 35, 3) := by decide +kernel
theorem dX10_init_74 : decode cX10_init 74 = .ok (.aload_n 0, 1) := by decide +kernel
theorem dX10_init_75 : decode cX10_init 75 = .ok (.bipush 8, 2) := by decide +kernel
theorem dX10_init_77 : decode cX10_init 77 = .ok (.newarray .int, 2) := by decide +kernel
theorem dX10_init_79 : decode cX10_init 79 = .ok (.putfield 38, 3) := by decide +kernel
theorem dX10_init_82 : decode cX10_init 82 = .ok (.aload_n 0, 1) := by decide +kernel
theorem dX10_init_83 : decode cX10_init 83 = .ok (.bipush 8, 2) := by decide +kernel
theorem dX10_init_85 : decode cX10_init 85 = .ok (.newarray .int, 2) := by decide +kernel
theorem dX10_init_87 : decode cX10_init 87 = .ok (.putfield 41, 3) := by decide +kernel
theorem dX10_init_90 : decode cX10_init 90 = .ok (.aload_n 0, 1) := by decide +kernel
theorem dX10_init_91 : decode cX10_init 91 = .ok (.sipush 576, 3) := by decide +kernel
theorem dX10_init_94 : decode cX10_init 94 = .ok (.newarray .int, 2) := by decide +kernel
theorem dX10_init_96 : decode cX10_init 96 = .ok (.putfield 44, 3) := by decide +kernel
theorem dX10_init_99 : decode cX10_init 99 = .ok (.aload_n 0, 1) := by decide +kernel
theorem dX10_init_100 : decode cX10_init 100 = .ok (.bipush 36, 2) := by decide +kernel
theorem dX10_init_102 : decode cX10_init 102 = .ok (.newarray .int, 2) := by decide +kernel
theorem dX10_init_104 : decode cX10_init 104 = .ok (.putfield 47, 3) := by decide +kernel
theorem dX10_init_107 : decode cX10_init 107 = .ok (.aload_n 0, 1) := by decide +kernel
theorem dX10_init_108 : decode cX10_init 108 = .ok (.sipush 256, 3) := by decide +kernel
theorem dX10_init_111 : decode cX10_init 111 = .ok (.newarray .int, 2) := by decide +kernel
theorem dX10_init_113 : decode cX10_init 113 = .ok (.putfield 50, 3) := by decide +kernel
theorem dX10_init_116 : decode cX10_init 116 = .ok (.aload_n 0, 1) := by decide +kernel
theorem dX10_init_117 : decode cX10_init 117 = .ok (.sipush 256, 3) := by decide +kernel
theorem dX10_init_120 : decode cX10_init 120 = .ok (.newarray .boolean, 2) := by decide +kernel
theorem dX10_init_122 : decode cX10_init 122 = .ok (.putfield 53, 3) := by decide +kernel
theorem dX10_init_125 : decode cX10_init 125 = .ok (.aload_n 0, 1) := by decide +kernel
theorem dX10_init_126 : decode cX10_init 126 = .ok (.sipush 2048, 3) := by decide +kernel
theorem dX10_init_129 : decode cX10_init 129 = .ok (.newarray .int, 2) := by decide +kernel
theorem dX10_init_131 : decode cX10_init 131 = .ok (.putfield 57, 3) := by decide +kernel
theorem dX10_init_134 : decode cX10_init 134 = .ok (.aload_n 0, 1) := by decide +kernel
theorem dX10_init_135 : decode cX10_init 135 = .ok (.bipush 15, 2) := by decide +kernel
theorem dX10_init_137 : decode cX10_init 137 = .ok (.newarray .int, 2) := by decide +kernel
theorem dX10_init_139 : decode cX10_init 139 = .ok (.putfield 60, 3) := by decide +kernel
theorem dX10_init_142 : decode cX10_init 142 = .ok (.aload_n 0, 1) := by decide +kernel
theorem dX10_init_143 : decode cX10_init 143 = .ok (.bipush 15, 2) := by decide +kernel
theorem dX10_init_145 : decode cX10_init 145 = .ok (.newarray .int, 2) := by decide +kernel
theorem dX10_init_147 : decode cX10_init 147 = .ok (.putfield 63, 3) := by decide +kernel
theorem dX10_init_150 : decode cX10_init 150 = .ok (.aload_n 0, 1) := by decide +kernel
theorem dX10_init_151 : decode cX10_init 151 = .ok (.bipush 74, 2) := by decide +kernel
theorem dX10_init_153 : decode cX10_init 153 = .ok (.newarray .int, 2) := by decide +kernel
theorem dX10_init_155 : decode cX10_init 155 = .ok (.putfield 66, 3) := by decide +kernel
theorem dX10_init_158 : decode cX10_init 158 = .ok (.aload_n 0, 1) := by decide +kernel
theorem dX10_init_159 : decode cX10_init 159 = .ok (.iconst 2, 1) := by decide +kernel
theorem dX10_init_160 : decode cX10_init 160 = .ok (.newarray .boolean, 2) := by decide +kernel
theorem dX10_init_162 : decode cX10_init 162 = .ok (.putfield 69, 3) := by decide +kernel
theorem dX10_init_165 : decode cX10_init 165 = .ok (.aload_n 0, 1) := by decide +kernel
theorem dX10_init_166 : decode cX10_init 166 = .ok (.iconst 0, 1) := by decide +kernel
theorem dX10_init_167 : decode cX10_init 167 = .ok (.putfield 72, 3) := by decide +kernel
theorem dX10_init_170 : decode cX10_init 170 = .ok (.return_, 1) := by decide +kernel
theorem dX10_in_0 : decode cX10_in 0 = .ok (.lload_n 0, 1) := by decide +kernel
theorem dX10_in_1 : decode cX10_in 1 = .ok (.lload_n 2, 1) := by decide +kernel
theorem dX10_in_2 : decode cX10_in 2 = .ok (.lcmp, 1) := by decide +kernel
theorem dX10_in_3 : decode cX10_in 3 = .ok (.ifCond .lt 14, 3) := by decide +kernel
theorem dX10_in_6 : decode cX10_in 6 = .ok (.lload_n 0, 1) := by decide +kernel
theorem dX10_in_7 : decode cX10_in 7 = .ok (.lload 4, 2) := by decide +kernel
theorem dX10_in_9 : decode cX10_in 9 = .ok (.lcmp, 1) := by decide +kernel
theorem dX10_in_10 : decode cX10_in 10 = .ok (.ifCond .gt 7, 3) := by decide +kernel
theorem dX10_in_13 : decode cX10_in 13 = .ok (.iconst 1, 1) := by decide +kernel
theorem dX10_in_14 : decode cX10_in 14 = .ok (.goto 4, 3) := by decide +kernel
theorem dX10_in_17 : decode cX10_in 17 = .ok (.iconst 0, 1) := by decide +kernel
theorem dX10_in_18 : decode cX10_in 18 = .ok (.ireturn, 1) := by decide +kernel
theorem dX10_has_0 : decode cX10_has 0 = .ok (.iload_n 0, 1) := by decide +kernel
theorem dX10_has_1 : decode cX10_has 1 = .ok (.iload_n 1, 1) := by decide +kernel
theorem dX10_has_2 : decode cX10_has 2 = .ok (.ishr, 1) := by decide +kernel
theorem dX10_has_3 : decode cX10_has 3 = .ok (.iconst 1, 1) := by decide +kernel
theorem dX10_has_4 : decode cX10_has 4 = .ok (.iand, 1) := by decide +kernel
theorem dX10_has_5 : decode cX10_has 5 = .ok (.iconst 1, 1) := by decide +kernel
theorem dX10_has_6 : decode cX10_has 6 = .ok (.if_icmp .ne 7, 3) := by decide +kernel
theorem dX10_has_9 : decode cX10_has 9 = .ok (.iconst 1, 1) := by decide +kernel
theorem dX10_has_10 : decode cX10_has 10 = .ok (.goto 4, 3) := by decide +kernel
theorem dX10_has_13 : decode cX10_has 13 = .ok (.iconst 0, 1) := by decide +kernel
theorem dX10_has_14 : decode cX10_has 14 = .ok (.ireturn, 1) := by decide +kernel
theorem dX10_bits_0 : decode cX10_bits 0 = .ok (.iconst 0, 1) := by decide +kernel
theorem dX10_bits_1 : decode cX10_bits 1 = .ok (.istore_n 1, 1) := by decide +kernel
theorem dX10_bits_2 : decode cX10_bits 2 = .ok (.iconst 0, 1) := by decide +kernel
theorem dX10_bits_3 : decode cX10_bits 3 = .ok (.istore_n 2, 1) := by decide +kernel
theorem dX10_bits_4 : decode cX10_bits 4 = .ok (.iload_n 2, 1) := by decide +kernel
theorem dX10_bits_5 : decode cX10_bits 5 = .ok (.bipush 8, 2) := by decide +kernel
theorem dX10_bits_7 : decode cX10_bits 7 = .ok (.if_icmp .ge 17, 3) := by decide +kernel
theorem dX10_bits_10 : decode cX10_bits 10 = .ok (.iload_n 1, 1) := by decide +kernel
theorem dX10_bits_11 : decode cX10_bits 11 = .ok (.iload_n 0, 1) := by decide +kernel
theorem dX10_bits_12 : decode cX10_bits 12 = .ok (.iload_n 2, 1) := by decide +kernel
theorem dX10_bits_13 : decode cX10_bits 13 = .ok (.ishr, 1) := by decide +kernel
theorem dX10_bits_14 : decode cX10_bits 14 = .ok (.iconst 1, 1) := by decide +kernel
theorem dX10_bits_15 : decode cX10_bits 15 = .ok (.iand, 1) := by decide +kernel
theorem dX10_bits_16 : decode cX10_bits 16 = .ok (.iadd, 1) := by decide +kernel
theorem dX10_bits_17 : decode cX10_bits 17 = .ok (.istore_n 1, 1) := by decide +kernel
theorem dX10_bits_18 : decode cX10_bits 18 = .ok (.iinc 2 1, 3) := by decide +kernel
theorem dX10_bits_21 : decode cX10_bits 21 = .ok (.goto (-17), 3) := by decide +kernel
theorem dX10_bits_24 : decode cX10_bits 24 = .ok (.iload_n 1, 1) := by decide +kernel
theorem dX10_bits_25 : decode cX10_bits 25 = .ok (.ireturn, 1) := by decide +kernel
theorem dX10_isCourt_0 : decode cX10_isCourt 0 = .ok (.iload_n 1, 1) := by decide +kernel
theorem dX10_isCourt_1 : decode cX10_isCourt 1 = .ok (.i2l, 1) := by decide +kernel
theorem dX10_isCourt_2 : decode cX10_isCourt 2 = .ok (.lconst 0, 1) := by decide +kernel
theorem dX10_isCourt_3 : decode cX10_isCourt 3 = .ok (.aload_n 0, 1) := by decide +kernel
theorem dX10_isCourt_4 : decode cX10_isCourt 4 = .ok (.getfield 72, 3) := by decide +kernel
theorem dX10_isCourt_7 : decode cX10_isCourt 7 = .ok (.iconst 1, 1) := by decide +kernel
theorem dX10_isCourt_8 : decode cX10_isCourt 8 = .ok (.isub, 1) := by decide +kernel
theorem dX10_isCourt_9 : decode cX10_isCourt 9 = .ok (.i2l, 1) := by decide +kernel
theorem dX10_isCourt_10 : decode cX10_isCourt 10 = .ok (.invokestatic 75, 3) := by decide +kernel
theorem dX10_isCourt_13 : decode cX10_isCourt 13 = .ok (.ireturn, 1) := by decide +kernel
theorem dX10_isDoll_0 : decode cX10_isDoll 0 = .ok (.iload_n 1, 1) := by decide +kernel
theorem dX10_isDoll_1 : decode cX10_isDoll 1 = .ok (.i2l, 1) := by decide +kernel
theorem dX10_isDoll_2 : decode cX10_isDoll 2 = .ok (.lconst 0, 1) := by decide +kernel
theorem dX10_isDoll_3 : decode cX10_isDoll 3 = .ok (.aload_n 0, 1) := by decide +kernel
theorem dX10_isDoll_4 : decode cX10_isDoll 4 = .ok (.getfield 79, 3) := by decide +kernel
theorem dX10_isDoll_7 : decode cX10_isDoll 7 = .ok (.iconst 1, 1) := by decide +kernel
theorem dX10_isDoll_8 : decode cX10_isDoll 8 = .ok (.isub, 1) := by decide +kernel
theorem dX10_isDoll_9 : decode cX10_isDoll 9 = .ok (.i2l, 1) := by decide +kernel
theorem dX10_isDoll_10 : decode cX10_isDoll 10 = .ok (.invokestatic 75, 3) := by decide +kernel
theorem dX10_isDoll_13 : decode cX10_isDoll 13 = .ok (.ireturn, 1) := by decide +kernel
theorem dX10_feed_0 : decode cX10_feed 0 = .ok (.iload_n 1, 1) := by decide +kernel
theorem dX10_feed_1 : decode cX10_feed 1 = .ok (.i2l, 1) := by decide +kernel
theorem dX10_feed_2 : decode cX10_feed 2 = .ok (.lconst 0, 1) := by decide +kernel
theorem dX10_feed_3 : decode cX10_feed 3 = .ok (.ldc2_w 82, 3) := by decide +kernel
theorem dX10_feed_6 : decode cX10_feed 6 = .ok (.invokestatic 75, 3) := by decide +kernel
theorem dX10_feed_9 : decode cX10_feed 9 = .ok (.ifCond .ne 6, 3) := by decide +kernel
theorem dX10_feed_12 : decode cX10_feed 12 = .ok (.ldc 84, 2) := by decide +kernel
theorem dX10_feed_14 : decode cX10_feed 14 = .ok (.ireturn, 1) := by decide +kernel
theorem dX10_feed_15 : decode cX10_feed 15 = .ok (.aload_n 0, 1) := by decide +kernel
theorem dX10_feed_16 : decode cX10_feed 16 = .ok (.getfield 85, 3) := by decide +kernel
theorem dX10_feed_19 : decode cX10_feed 19 = .ok (.sipush 240, 3) := by decide +kernel
theorem dX10_feed_22 : decode cX10_feed 22 = .ok (.if_icmp .ne 6, 3) := by decide +kernel
theorem dX10_feed_25 : decode cX10_feed 25 = .ok (.ldc 88, 2) := by decide +kernel
theorem dX10_feed_27 : decode cX10_feed 27 = .ok (.ireturn, 1) := by decide +kernel
theorem dX10_feed_28 : decode cX10_feed 28 = .ok (.aload_n 0, 1) := by decide +kernel
theorem dX10_feed_29 : decode cX10_feed 29 = .ok (.getfield 25, 3) := by decide +kernel
theorem dX10_feed_32 : decode cX10_feed 32 = .ok (.aload_n 0, 1) := by decide +kernel
theorem dX10_feed_33 : decode cX10_feed 33 = .ok (.getfield 85, 3) := by decide +kernel
theorem dX10_feed_36 : decode cX10_feed 36 = .ok (.iload_n 1, 1) := by decide +kernel
theorem dX10_feed_37 : decode cX10_feed 37 = .ok (.iastore, 1) := by decide +kernel
theorem dX10_feed_38 : decode cX10_feed 38 = .ok (.aload_n 0, 1) := by decide +kernel
theorem dX10_feed_39 : decode cX10_feed 39 = .ok (.dup, 1) := by decide +kernel
theorem dX10_feed_40 : decode cX10_feed 40 = .ok (.getfield 85, 3) := by decide +kernel
theorem dX10_feed_43 : decode cX10_feed 43 = .ok (.iconst 1, 1) := by decide +kernel
theorem dX10_feed_44 : decode cX10_feed 44 = .ok (.iadd, 1) := by decide +kernel
theorem dX10_feed_45 : decode cX10_feed 45 = .ok (.putfield 85, 3) := by decide +kernel
theorem dX10_feed_48 : decode cX10_feed 48 = .ok (.aload_n 0, 1) := by decide +kernel
theorem dX10_feed_49 : decode cX10_feed 49 = .ok (.getfield 85, 3) := by decide +kernel
theorem dX10_feed_52 : decode cX10_feed 52 = .ok (.ireturn, 1) := by decide +kernel
theorem dX10_here_0 : decode cX10_here 0 = .ok (.aload_n 0, 1) := by decide +kernel
theorem dX10_here_1 : decode cX10_here 1 = .ok (.getfield 89, 3) := by decide +kernel
theorem dX10_here_4 : decode cX10_here 4 = .ok (.aload_n 0, 1) := by decide +kernel
theorem dX10_here_5 : decode cX10_here 5 = .ok (.getfield 85, 3) := by decide +kernel
theorem dX10_here_8 : decode cX10_here 8 = .ok (.if_icmp .ge 30, 3) := by decide +kernel
theorem dX10_here_11 : decode cX10_here 11 = .ok (.aload_n 0, 1) := by decide +kernel
theorem dX10_here_12 : decode cX10_here 12 = .ok (.getfield 25, 3) := by decide +kernel
theorem dX10_here_15 : decode cX10_here 15 = .ok (.aload_n 0, 1) := by decide +kernel
theorem dX10_here_16 : decode cX10_here 16 = .ok (.getfield 89, 3) := by decide +kernel
theorem dX10_here_19 : decode cX10_here 19 = .ok (.iaload, 1) := by decide +kernel
theorem dX10_here_20 : decode cX10_here 20 = .ok (.bipush 32, 2) := by decide +kernel
theorem dX10_here_22 : decode cX10_here 22 = .ok (.if_icmp .ne 16, 3) := by decide +kernel
theorem dX10_here_25 : decode cX10_here 25 = .ok (.aload_n 0, 1) := by decide +kernel
theorem dX10_here_26 : decode cX10_here 26 = .ok (.dup, 1) := by decide +kernel
theorem dX10_here_27 : decode cX10_here 27 = .ok (.getfield 89, 3) := by decide +kernel
theorem dX10_here_30 : decode cX10_here 30 = .ok (.iconst 1, 1) := by decide +kernel
theorem dX10_here_31 : decode cX10_here 31 = .ok (.iadd, 1) := by decide +kernel
theorem dX10_here_32 : decode cX10_here 32 = .ok (.putfield 89, 3) := by decide +kernel
theorem dX10_here_35 : decode cX10_here 35 = .ok (.goto (-35), 3) := by decide +kernel
theorem dX10_here_38 : decode cX10_here 38 = .ok (.aload_n 0, 1) := by decide +kernel
theorem dX10_here_39 : decode cX10_here 39 = .ok (.getfield 89, 3) := by decide +kernel
theorem dX10_here_42 : decode cX10_here 42 = .ok (.aload_n 0, 1) := by decide +kernel
theorem dX10_here_43 : decode cX10_here 43 = .ok (.getfield 85, 3) := by decide +kernel
theorem dX10_here_46 : decode cX10_here 46 = .ok (.if_icmp .ge 15, 3) := by decide +kernel
theorem dX10_here_49 : decode cX10_here 49 = .ok (.aload_n 0, 1) := by decide +kernel
theorem dX10_here_50 : decode cX10_here 50 = .ok (.getfield 25, 3) := by decide +kernel
theorem dX10_here_53 : decode cX10_here 53 = .ok (.aload_n 0, 1) := by decide +kernel
theorem dX10_here_54 : decode cX10_here 54 = .ok (.getfield 89, 3) := by decide +kernel
theorem dX10_here_57 : decode cX10_here 57 = .ok (.iaload, 1) := by decide +kernel
theorem dX10_here_58 : decode cX10_here 58 = .ok (.goto 4, 3) := by decide +kernel
theorem dX10_here_61 : decode cX10_here 61 = .ok (.iconst (-1), 1) := by decide +kernel
theorem dX10_here_62 : decode cX10_here 62 = .ok (.ireturn, 1) := by decide +kernel
theorem dX10_fails_0 : decode cX10_fails 0 = .ok (.aload_n 0, 1) := by decide +kernel
theorem dX10_fails_1 : decode cX10_fails 1 = .ok (.iload_n 2, 1) := by decide +kernel
theorem dX10_fails_2 : decode cX10_fails 2 = .ok (.putfield 28, 3) := by decide +kernel
theorem dX10_fails_5 : decode cX10_fails 5 = .ok (.iload_n 1, 1) := by decide +kernel
theorem dX10_fails_6 : decode cX10_fails 6 = .ok (.ireturn, 1) := by decide +kernel
theorem dX10_takeNumber_0 : decode cX10_takeNumber 0 = .ok (.aload_n 0, 1) := by decide +kernel
theorem dX10_takeNumber_1 : decode cX10_takeNumber 1 = .ok (.invokevirtual 92, 3) := by decide +kernel
theorem dX10_takeNumber_4 : decode cX10_takeNumber 4 = .ok (.istore_n 3, 1) := by decide +kernel
theorem dX10_takeNumber_5 : decode cX10_takeNumber 5 = .ok (.iload_n 3, 1) := by decide +kernel
theorem dX10_takeNumber_6 : decode cX10_takeNumber 6 = .ok (.i2l, 1) := by decide +kernel
theorem dX10_takeNumber_7 : decode cX10_takeNumber 7 = .ok (.ldc2_w 96, 3) := by decide +kernel
theorem dX10_takeNumber_10 : decode cX10_takeNumber 10 = .ok (.ldc2_w 98, 3) := by decide +kernel
theorem dX10_takeNumber_13 : decode cX10_takeNumber 13 = .ok (.invokestatic 75, 3) := by decide +kernel
theorem dX10_takeNumber_16 : decode cX10_takeNumber 16 = .ok (.ifCond .ne 13, 3) := by decide +kernel
theorem dX10_takeNumber_19 : decode cX10_takeNumber 19 = .ok (.aload_n 0, 1) := by decide +kernel
theorem dX10_takeNumber_20 : decode cX10_takeNumber 20 = .ok (.iconst 1, 1) := by decide +kernel
theorem dX10_takeNumber_21 : decode cX10_takeNumber 21 = .ok (.aload_n 0, 1) := by decide +kernel
theorem dX10_takeNumber_22 : decode cX10_takeNumber 22 = .ok (.getfield 89, 3) := by decide +kernel
theorem dX10_takeNumber_25 : decode cX10_takeNumber 25 = .ok (.invokevirtual 100, 3) := by decide +kernel
theorem dX10_takeNumber_28 : decode cX10_takeNumber 28 = .ok (.ireturn, 1) := by decide +kernel
theorem dX10_takeNumber_29 : decode cX10_takeNumber 29 = .ok (.aload_n 0, 1) := by decide +kernel
theorem dX10_takeNumber_30 : decode cX10_takeNumber 30 = .ok (.aload_n 0, 1) := by decide +kernel
theorem dX10_takeNumber_31 : decode cX10_takeNumber 31 = .ok (.getfield 89, 3) := by decide +kernel
theorem dX10_takeNumber_34 : decode cX10_takeNumber 34 = .ok (.putfield 104, 3) := by decide +kernel
theorem dX10_takeNumber_37 : decode cX10_takeNumber 37 = .ok (.aload_n 0, 1) := by decide +kernel
theorem dX10_takeNumber_38 : decode cX10_takeNumber 38 = .ok (.iconst 0, 1) := by decide +kernel
theorem dX10_takeNumber_39 : decode cX10_takeNumber 39 = .ok (.putfield 107, 3) := by decide +kernel
theorem dX10_takeNumber_42 : decode cX10_takeNumber 42 = .ok (.aload_n 0, 1) := by decide +kernel
theorem dX10_takeNumber_43 : decode cX10_takeNumber 43 = .ok (.getfield 89, 3) := by decide +kernel
theorem dX10_takeNumber_46 : decode cX10_takeNumber 46 = .ok (.aload_n 0, 1) := by decide +kernel
theorem dX10_takeNumber_47 : decode cX10_takeNumber 47 = .ok (.getfield 85, 3) := by decide +kernel
theorem dX10_takeNumber_50 : decode cX10_takeNumber 50 = .ok (.if_icmp .ge 79, 3) := by decide +kernel
theorem dX10_takeNumber_53 : decode cX10_takeNumber 53 = .ok (.aload_n 0, 1) := by decide +kernel
theorem dX10_takeNumber_54 : decode cX10_takeNumber 54 = .ok (.getfield 25, 3) := by decide +kernel
theorem dX10_takeNumber_57 : decode cX10_takeNumber 57 = .ok (.aload_n 0, 1) := by decide +kernel
theorem dX10_takeNumber_58 : decode cX10_takeNumber 58 = .ok (.getfield 89, 3) := by decide +kernel
theorem dX10_takeNumber_61 : decode cX10_takeNumber 61 = .ok (.iaload, 1) := by decide +kernel
theorem dX10_takeNumber_62 : decode cX10_takeNumber 62 = .ok (.i2l, 1) := by decide +kernel
theorem dX10_takeNumber_63 : decode cX10_takeNumber 63 = .ok (.ldc2_w 96, 3) := by decide +kernel
theorem dX10_takeNumber_66 : decode cX10_takeNumber 66 = .ok (.ldc2_w 98, 3) := by decide +kernel
theorem dX10_takeNumber_69 : decode cX10_takeNumber 69 = .ok (.invokestatic 75, 3) := by decide +kernel
theorem dX10_takeNumber_72 : decode cX10_takeNumber 72 = .ok (.ifCond .eq 57, 3) := by decide +kernel
theorem dX10_takeNumber_75 : decode cX10_takeNumber 75 = .ok (.aload_n 0, 1) := by decide +kernel
theorem dX10_takeNumber_76 : decode cX10_takeNumber 76 = .ok (.aload_n 0, 1) := by decide +kernel
theorem dX10_takeNumber_77 : decode cX10_takeNumber 77 = .ok (.getfield 107, 3) := by decide +kernel
theorem dX10_takeNumber_80 : decode cX10_takeNumber 80 = .ok (.sipush 10000, 3) := by decide +kernel
theorem dX10_takeNumber_83 : decode cX10_takeNumber 83 = .ok (.if_icmp .le 10, 3) := by decide +kernel
theorem dX10_takeNumber_86 : decode cX10_takeNumber 86 = .ok (.aload_n 0, 1) := by decide +kernel
theorem dX10_takeNumber_87 : decode cX10_takeNumber 87 = .ok (.getfield 107, 3) := by decide +kernel
theorem dX10_takeNumber_90 : decode cX10_takeNumber 90 = .ok (.goto 23, 3) := by decide +kernel
theorem dX10_takeNumber_93 : decode cX10_takeNumber 93 = .ok (.bipush 10, 2) := by decide +kernel
theorem dX10_takeNumber_95 : decode cX10_takeNumber 95 = .ok (.aload_n 0, 1) := by decide +kernel
theorem dX10_takeNumber_96 : decode cX10_takeNumber 96 = .ok (.getfield 107, 3) := by decide +kernel
theorem dX10_takeNumber_99 : decode cX10_takeNumber 99 = .ok (.imul, 1) := by decide +kernel
theorem dX10_takeNumber_100 : decode cX10_takeNumber 100 = .ok (.aload_n 0, 1) := by decide +kernel
theorem dX10_takeNumber_101 : decode cX10_takeNumber 101 = .ok (.getfield 25, 3) := by decide +kernel
theorem dX10_takeNumber_104 : decode cX10_takeNumber 104 = .ok (.aload_n 0, 1) := by decide +kernel
theorem dX10_takeNumber_105 : decode cX10_takeNumber 105 = .ok (.getfield 89, 3) := by decide +kernel
theorem dX10_takeNumber_108 : decode cX10_takeNumber 108 = .ok (.iaload, 1) := by decide +kernel
theorem dX10_takeNumber_109 : decode cX10_takeNumber 109 = .ok (.iadd, 1) := by decide +kernel
theorem dX10_takeNumber_110 : decode cX10_takeNumber 110 = .ok (.bipush 48, 2) := by decide +kernel
theorem dX10_takeNumber_112 : decode cX10_takeNumber 112 = .ok (.isub, 1) := by decide +kernel
theorem dX10_takeNumber_113 : decode cX10_takeNumber 113 = .ok (.putfield 107, 3) := by decide +kernel
theorem dX10_takeNumber_116 : decode cX10_takeNumber 116 = .ok (.aload_n 0, 1) := by decide +kernel
theorem dX10_takeNumber_117 : decode cX10_takeNumber 117 = .ok (.dup, 1) := by decide +kernel
theorem dX10_takeNumber_118 : decode cX10_takeNumber 118 = .ok (.getfield 89, 3) := by decide +kernel
theorem dX10_takeNumber_121 : decode cX10_takeNumber 121 = .ok (.iconst 1, 1) := by decide +kernel
theorem dX10_takeNumber_122 : decode cX10_takeNumber 122 = .ok (.iadd, 1) := by decide +kernel
theorem dX10_takeNumber_123 : decode cX10_takeNumber 123 = .ok (.putfield 89, 3) := by decide +kernel
theorem dX10_takeNumber_126 : decode cX10_takeNumber 126 = .ok (.goto (-84), 3) := by decide +kernel
theorem dX10_takeNumber_129 : decode cX10_takeNumber 129 = .ok (.aload_n 0, 1) := by decide +kernel
theorem dX10_takeNumber_130 : decode cX10_takeNumber 130 = .ok (.getfield 89, 3) := by decide +kernel
theorem dX10_takeNumber_133 : decode cX10_takeNumber 133 = .ok (.aload_n 0, 1) := by decide +kernel
theorem dX10_takeNumber_134 : decode cX10_takeNumber 134 = .ok (.getfield 104, 3) := by decide +kernel
theorem dX10_takeNumber_137 : decode cX10_takeNumber 137 = .ok (.isub, 1) := by decide +kernel
theorem dX10_takeNumber_138 : decode cX10_takeNumber 138 = .ok (.iconst 3, 1) := by decide +kernel
theorem dX10_takeNumber_139 : decode cX10_takeNumber 139 = .ok (.if_icmp .gt 18, 3) := by decide +kernel
theorem dX10_takeNumber_142 : decode cX10_takeNumber 142 = .ok (.aload_n 0, 1) := by decide +kernel
theorem dX10_takeNumber_143 : decode cX10_takeNumber 143 = .ok (.getfield 107, 3) := by decide +kernel
theorem dX10_takeNumber_146 : decode cX10_takeNumber 146 = .ok (.i2l, 1) := by decide +kernel
theorem dX10_takeNumber_147 : decode cX10_takeNumber 147 = .ok (.iload_n 1, 1) := by decide +kernel
theorem dX10_takeNumber_148 : decode cX10_takeNumber 148 = .ok (.i2l, 1) := by decide +kernel
theorem dX10_takeNumber_149 : decode cX10_takeNumber 149 = .ok (.iload_n 2, 1) := by decide +kernel
theorem dX10_takeNumber_150 : decode cX10_takeNumber 150 = .ok (.i2l, 1) := by decide +kernel
theorem dX10_takeNumber_151 : decode cX10_takeNumber 151 = .ok (.invokestatic 75, 3) := by decide +kernel
theorem dX10_takeNumber_154 : decode cX10_takeNumber 154 = .ok (.ifCond .ne 15, 3) := by decide +kernel
theorem dX10_takeNumber_157 : decode cX10_takeNumber 157 = .ok (.aload_n 0, 1) := by decide +kernel
theorem dX10_takeNumber_158 : decode cX10_takeNumber 158 = .ok (.iconst 2, 1) := by decide +kernel
theorem dX10_takeNumber_159 : decode cX10_takeNumber 159 = .ok (.aload_n 0, 1) := by decide +kernel
theorem dX10_takeNumber_160 : decode cX10_takeNumber 160 = .ok (.getfield 104, 3) := by decide +kernel
theorem dX10_takeNumber_163 : decode cX10_takeNumber 163 = .ok (.invokevirtual 100, 3) := by decide +kernel
theorem dX10_takeNumber_166 : decode cX10_takeNumber 166 = .ok (.goto 4, 3) := by decide +kernel
theorem dX10_takeNumber_169 : decode cX10_takeNumber 169 = .ok (.iconst 0, 1) := by decide +kernel
theorem dX10_takeNumber_170 : decode cX10_takeNumber 170 = .ok (.ireturn, 1) := by decide +kernel
theorem dX10_into_0 : decode cX10_into 0 = .ok (.aload_n 0, 1) := by decide +kernel
theorem dX10_into_1 : decode cX10_into 1 = .ok (.iload_n 3, 1) := by decide +kernel
theorem dX10_into_2 : decode cX10_into 2 = .ok (.iload 4, 2) := by decide +kernel
theorem dX10_into_4 : decode cX10_into 4 = .ok (.invokevirtual 110, 3) := by decide +kernel
theorem dX10_into_7 : decode cX10_into 7 = .ok (.istore 5, 2) := by decide +kernel
theorem dX10_into_9 : decode cX10_into 9 = .ok (.aload_n 1, 1) := by decide +kernel
theorem dX10_into_10 : decode cX10_into 10 = .ok (.iload_n 2, 1) := by decide +kernel
theorem dX10_into_11 : decode cX10_into 11 = .ok (.aload_n 0, 1) := by decide +kernel
theorem dX10_into_12 : decode cX10_into 12 = .ok (.getfield 107, 3) := by decide +kernel
theorem dX10_into_15 : decode cX10_into 15 = .ok (.iastore, 1) := by decide +kernel
theorem dX10_into_16 : decode cX10_into 16 = .ok (.iload 5, 2) := by decide +kernel
theorem dX10_into_18 : decode cX10_into 18 = .ok (.ireturn, 1) := by decide +kernel
theorem dX10_takeCourts_0 : decode cX10_takeCourts 0 = .ok (.aload_n 0, 1) := by decide +kernel
theorem dX10_takeCourts_1 : decode cX10_takeCourts 1 = .ok (.aload_n 0, 1) := by decide +kernel
theorem dX10_takeCourts_2 : decode cX10_takeCourts 2 = .ok (.getfield 32, 3) := by decide +kernel
theorem dX10_takeCourts_5 : decode cX10_takeCourts 5 = .ok (.iconst 0, 1) := by decide +kernel
theorem dX10_takeCourts_6 : decode cX10_takeCourts 6 = .ok (.iconst 1, 1) := by decide +kernel
theorem dX10_takeCourts_7 : decode cX10_takeCourts 7 = .ok (.bipush 9, 2) := by decide +kernel
theorem dX10_takeCourts_9 : decode cX10_takeCourts 9 = .ok (.invokevirtual 113, 3) := by decide +kernel
theorem dX10_takeCourts_12 : decode cX10_takeCourts 12 = .ok (.istore_n 1, 1) := by decide +kernel
theorem dX10_takeCourts_13 : decode cX10_takeCourts 13 = .ok (.aload_n 0, 1) := by decide +kernel
theorem dX10_takeCourts_14 : decode cX10_takeCourts 14 = .ok (.iconst 1, 1) := by decide +kernel
theorem dX10_takeCourts_15 : decode cX10_takeCourts 15 = .ok (.putfield 117, 3) := by decide +kernel
theorem dX10_takeCourts_18 : decode cX10_takeCourts 18 = .ok (.iload_n 1, 1) := by decide +kernel
theorem dX10_takeCourts_19 : decode cX10_takeCourts 19 = .ok (.ifCond .ne 70, 3) := by decide +kernel
theorem dX10_takeCourts_22 : decode cX10_takeCourts 22 = .ok (.aload_n 0, 1) := by decide +kernel
theorem dX10_takeCourts_23 : decode cX10_takeCourts 23 = .ok (.invokevirtual 92, 3) := by decide +kernel
