theorem dX6_tend_30 : decode cX6_tend 30 = .ok (.getfield 33, 3) := by decide +kernel
theorem dX6_tend_33 : decode cX6_tend 33 = .ok (.iload_n 2, 1) := by decide +kernel
theorem dX6_tend_34 : decode cX6_tend 34 = .ok (.invokevirtual 72, 3) := by decide +kernel
theorem dX6_tend_37 : decode cX6_tend 37 = .ok (.ifCond .ne 22, 3) := by decide +kernel
theorem dX6_tend_40 : decode cX6_tend 40 = .ok (.iload_n 1, 1) := by decide +kernel
theorem dX6_tend_41 : decode cX6_tend 41 = .ok (.aload_n 0, 1) := by decide +kernel
theorem dX6_tend_42 : decode cX6_tend 42 = .ok (.getfield 12, 3) := by decide +kernel
theorem dX6_tend_45 : decode cX6_tend 45 = .ok (.getfield 33, 3) := by decide +kernel
theorem dX6_tend_48 : decode cX6_tend 48 = .ok (.getfield 75, 3) := by decide +kernel
theorem dX6_tend_51 : decode cX6_tend 51 = .ok (.iload_n 2, 1) := by decide +kernel
theorem dX6_tend_52 : decode cX6_tend 52 = .ok (.iaload, 1) := by decide +kernel
theorem dX6_tend_53 : decode cX6_tend 53 = .ok (.invokestatic 79, 3) := by decide +kernel
theorem dX6_tend_56 : decode cX6_tend 56 = .ok (.ifCond .ne 6, 3) := by decide +kernel
theorem dX6_tend_59 : decode cX6_tend 59 = .ok (.ldc 83, 2) := by decide +kernel
theorem dX6_tend_61 : decode cX6_tend 61 = .ok (.ireturn, 1) := by decide +kernel
theorem dX6_tend_62 : decode cX6_tend 62 = .ok (.aload_n 0, 1) := by decide +kernel
theorem dX6_tend_63 : decode cX6_tend 63 = .ok (.getfield 12, 3) := by decide +kernel
theorem dX6_tend_66 : decode cX6_tend 66 = .ok (.getfield 33, 3) := by decide +kernel
theorem dX6_tend_69 : decode cX6_tend 69 = .ok (.iload_n 1, 1) := by decide +kernel
theorem dX6_tend_70 : decode cX6_tend 70 = .ok (.invokevirtual 84, 3) := by decide +kernel
theorem dX6_tend_73 : decode cX6_tend 73 = .ok (.iconst 2, 1) := by decide +kernel
theorem dX6_tend_74 : decode cX6_tend 74 = .ok (.if_icmp .lt 6, 3) := by decide +kernel
theorem dX6_tend_77 : decode cX6_tend 77 = .ok (.ldc 52, 2) := by decide +kernel
theorem dX6_tend_79 : decode cX6_tend 79 = .ok (.ireturn, 1) := by decide +kernel
theorem dX6_tend_80 : decode cX6_tend 80 = .ok (.aload_n 0, 1) := by decide +kernel
theorem dX6_tend_81 : decode cX6_tend 81 = .ok (.getfield 22, 3) := by decide +kernel
theorem dX6_tend_84 : decode cX6_tend 84 = .ok (.aload_n 0, 1) := by decide +kernel
theorem dX6_tend_85 : decode cX6_tend 85 = .ok (.getfield 12, 3) := by decide +kernel
theorem dX6_tend_88 : decode cX6_tend 88 = .ok (.invokevirtual 53, 3) := by decide +kernel
theorem dX6_tend_91 : decode cX6_tend 91 = .ok (.aload_n 0, 1) := by decide +kernel
theorem dX6_tend_92 : decode cX6_tend 92 = .ok (.getfield 12, 3) := by decide +kernel
theorem dX6_tend_95 : decode cX6_tend 95 = .ok (.getfield 33, 3) := by decide +kernel
theorem dX6_tend_98 : decode cX6_tend 98 = .ok (.getfield 88, 3) := by decide +kernel
theorem dX6_tend_101 : decode cX6_tend 101 = .ok (.iload_n 2, 1) := by decide +kernel
theorem dX6_tend_102 : decode cX6_tend 102 = .ok (.iload_n 1, 1) := by decide +kernel
theorem dX6_tend_103 : decode cX6_tend 103 = .ok (.iastore, 1) := by decide +kernel
theorem dX6_tend_104 : decode cX6_tend 104 = .ok (.aload_n 0, 1) := by decide +kernel
theorem dX6_tend_105 : decode cX6_tend 105 = .ok (.getfield 12, 3) := by decide +kernel
theorem dX6_tend_108 : decode cX6_tend 108 = .ok (.getfield 33, 3) := by decide +kernel
theorem dX6_tend_111 : decode cX6_tend 111 = .ok (.iload_n 1, 1) := by decide +kernel
theorem dX6_tend_112 : decode cX6_tend 112 = .ok (.invokevirtual 84, 3) := by decide +kernel
theorem dX6_tend_115 : decode cX6_tend 115 = .ok (.ireturn, 1) := by decide +kernel
theorem dX6_leave_0 : decode cX6_leave 0 = .ok (.aload_n 0, 1) := by decide +kernel
theorem dX6_leave_1 : decode cX6_leave 1 = .ok (.getfield 12, 3) := by decide +kernel
theorem dX6_leave_4 : decode cX6_leave 4 = .ok (.getfield 33, 3) := by decide +kernel
theorem dX6_leave_7 : decode cX6_leave 7 = .ok (.iload_n 1, 1) := by decide +kernel
theorem dX6_leave_8 : decode cX6_leave 8 = .ok (.invokevirtual 69, 3) := by decide +kernel
theorem dX6_leave_11 : decode cX6_leave 11 = .ok (.ifCond .ne 6, 3) := by decide +kernel
theorem dX6_leave_14 : decode cX6_leave 14 = .ok (.ldc 47, 2) := by decide +kernel
theorem dX6_leave_16 : decode cX6_leave 16 = .ok (.ireturn, 1) := by decide +kernel
theorem dX6_leave_17 : decode cX6_leave 17 = .ok (.aload_n 0, 1) := by decide +kernel
theorem dX6_leave_18 : decode cX6_leave 18 = .ok (.getfield 12, 3) := by decide +kernel
theorem dX6_leave_21 : decode cX6_leave 21 = .ok (.getfield 33, 3) := by decide +kernel
theorem dX6_leave_24 : decode cX6_leave 24 = .ok (.iload_n 1, 1) := by decide +kernel
theorem dX6_leave_25 : decode cX6_leave 25 = .ok (.invokevirtual 72, 3) := by decide +kernel
theorem dX6_leave_28 : decode cX6_leave 28 = .ok (.ifCond .ne 6, 3) := by decide +kernel
theorem dX6_leave_31 : decode cX6_leave 31 = .ok (.ldc 83, 2) := by decide +kernel
theorem dX6_leave_33 : decode cX6_leave 33 = .ok (.ireturn, 1) := by decide +kernel
theorem dX6_leave_34 : decode cX6_leave 34 = .ok (.aload_n 0, 1) := by decide +kernel
theorem dX6_leave_35 : decode cX6_leave 35 = .ok (.getfield 22, 3) := by decide +kernel
theorem dX6_leave_38 : decode cX6_leave 38 = .ok (.aload_n 0, 1) := by decide +kernel
theorem dX6_leave_39 : decode cX6_leave 39 = .ok (.getfield 12, 3) := by decide +kernel
theorem dX6_leave_42 : decode cX6_leave 42 = .ok (.invokevirtual 53, 3) := by decide +kernel
theorem dX6_leave_45 : decode cX6_leave 45 = .ok (.aload_n 0, 1) := by decide +kernel
theorem dX6_leave_46 : decode cX6_leave 46 = .ok (.getfield 12, 3) := by decide +kernel
theorem dX6_leave_49 : decode cX6_leave 49 = .ok (.getfield 33, 3) := by decide +kernel
theorem dX6_leave_52 : decode cX6_leave 52 = .ok (.getfield 88, 3) := by decide +kernel
theorem dX6_leave_55 : decode cX6_leave 55 = .ok (.iload_n 1, 1) := by decide +kernel
theorem dX6_leave_56 : decode cX6_leave 56 = .ok (.iaload, 1) := by decide +kernel
theorem dX6_leave_57 : decode cX6_leave 57 = .ok (.istore_n 2, 1) := by decide +kernel
theorem dX6_leave_58 : decode cX6_leave 58 = .ok (.aload_n 0, 1) := by decide +kernel
theorem dX6_leave_59 : decode cX6_leave 59 = .ok (.getfield 12, 3) := by decide +kernel
theorem dX6_leave_62 : decode cX6_leave 62 = .ok (.getfield 33, 3) := by decide +kernel
theorem dX6_leave_65 : decode cX6_leave 65 = .ok (.getfield 88, 3) := by decide +kernel
theorem dX6_leave_68 : decode cX6_leave 68 = .ok (.iload_n 1, 1) := by decide +kernel
theorem dX6_leave_69 : decode cX6_leave 69 = .ok (.iconst (-1), 1) := by decide +kernel
theorem dX6_leave_70 : decode cX6_leave 70 = .ok (.iastore, 1) := by decide +kernel
theorem dX6_leave_71 : decode cX6_leave 71 = .ok (.iload_n 2, 1) := by decide +kernel
theorem dX6_leave_72 : decode cX6_leave 72 = .ok (.ireturn, 1) := by decide +kernel
theorem dX6_open_0 : decode cX6_open 0 = .ok (.aload_n 0, 1) := by decide +kernel
theorem dX6_open_1 : decode cX6_open 1 = .ok (.getfield 12, 3) := by decide +kernel
theorem dX6_open_4 : decode cX6_open 4 = .ok (.getfield 33, 3) := by decide +kernel
theorem dX6_open_7 : decode cX6_open 7 = .ok (.iload_n 1, 1) := by decide +kernel
theorem dX6_open_8 : decode cX6_open 8 = .ok (.invokevirtual 69, 3) := by decide +kernel
theorem dX6_open_11 : decode cX6_open 11 = .ok (.ifCond .ne 6, 3) := by decide +kernel
theorem dX6_open_14 : decode cX6_open 14 = .ok (.ldc 47, 2) := by decide +kernel
theorem dX6_open_16 : decode cX6_open 16 = .ok (.ireturn, 1) := by decide +kernel
theorem dX6_open_17 : decode cX6_open 17 = .ok (.aload_n 0, 1) := by decide +kernel
theorem dX6_open_18 : decode cX6_open 18 = .ok (.getfield 12, 3) := by decide +kernel
theorem dX6_open_21 : decode cX6_open 21 = .ok (.getfield 33, 3) := by decide +kernel
theorem dX6_open_24 : decode cX6_open 24 = .ok (.iload_n 1, 1) := by decide +kernel
theorem dX6_open_25 : decode cX6_open 25 = .ok (.invokevirtual 91, 3) := by decide +kernel
theorem dX6_open_28 : decode cX6_open 28 = .ok (.ifCond .ne 6, 3) := by decide +kernel
theorem dX6_open_31 : decode cX6_open 31 = .ok (.ldc 83, 2) := by decide +kernel
theorem dX6_open_33 : decode cX6_open 33 = .ok (.ireturn, 1) := by decide +kernel
theorem dX6_open_34 : decode cX6_open 34 = .ok (.aload_n 0, 1) := by decide +kernel
theorem dX6_open_35 : decode cX6_open 35 = .ok (.getfield 22, 3) := by decide +kernel
theorem dX6_open_38 : decode cX6_open 38 = .ok (.aload_n 0, 1) := by decide +kernel
theorem dX6_open_39 : decode cX6_open 39 = .ok (.getfield 12, 3) := by decide +kernel
theorem dX6_open_42 : decode cX6_open 42 = .ok (.invokevirtual 53, 3) := by decide +kernel
theorem dX6_open_45 : decode cX6_open 45 = .ok (.aload_n 0, 1) := by decide +kernel
theorem dX6_open_46 : decode cX6_open 46 = .ok (.getfield 12, 3) := by decide +kernel
theorem dX6_open_49 : decode cX6_open 49 = .ok (.getfield 33, 3) := by decide +kernel
theorem dX6_open_52 : decode cX6_open 52 = .ok (.iload_n 1, 1) := by decide +kernel
theorem dX6_open_53 : decode cX6_open 53 = .ok (.invokevirtual 94, 3) := by decide +kernel
theorem dX6_open_56 : decode cX6_open 56 = .ok (.ireturn, 1) := by decide +kernel
theorem dX6_close_0 : decode cX6_close 0 = .ok (.aload_n 0, 1) := by decide +kernel
theorem dX6_close_1 : decode cX6_close 1 = .ok (.getfield 12, 3) := by decide +kernel
theorem dX6_close_4 : decode cX6_close 4 = .ok (.getfield 33, 3) := by decide +kernel
theorem dX6_close_7 : decode cX6_close 7 = .ok (.iload_n 1, 1) := by decide +kernel
theorem dX6_close_8 : decode cX6_close 8 = .ok (.invokevirtual 69, 3) := by decide +kernel
theorem dX6_close_11 : decode cX6_close 11 = .ok (.ifCond .ne 6, 3) := by decide +kernel
theorem dX6_close_14 : decode cX6_close 14 = .ok (.ldc 47, 2) := by decide +kernel
theorem dX6_close_16 : decode cX6_close 16 = .ok (.ireturn, 1) := by decide +kernel
theorem dX6_close_17 : decode cX6_close 17 = .ok (.aload_n 0, 1) := by decide +kernel
theorem dX6_close_18 : decode cX6_close 18 = .ok (.getfield 12, 3) := by decide +kernel
theorem dX6_close_21 : decode cX6_close 21 = .ok (.getfield 33, 3) := by decide +kernel
theorem dX6_close_24 : decode cX6_close 24 = .ok (.iload_n 1, 1) := by decide +kernel
theorem dX6_close_25 : decode cX6_close 25 = .ok (.invokevirtual 97, 3) := by decide +kernel
theorem dX6_close_28 : decode cX6_close 28 = .ok (.ifCond .ne 6, 3) := by decide +kernel
theorem dX6_close_31 : decode cX6_close 31 = .ok (.ldc 83, 2) := by decide +kernel
theorem dX6_close_33 : decode cX6_close 33 = .ok (.ireturn, 1) := by decide +kernel
theorem dX6_close_34 : decode cX6_close 34 = .ok (.aload_n 0, 1) := by decide +kernel
theorem dX6_close_35 : decode cX6_close 35 = .ok (.getfield 22, 3) := by decide +kernel
theorem dX6_close_38 : decode cX6_close 38 = .ok (.aload_n 0, 1) := by decide +kernel
theorem dX6_close_39 : decode cX6_close 39 = .ok (.getfield 12, 3) := by decide +kernel
theorem dX6_close_42 : decode cX6_close 42 = .ok (.invokevirtual 53, 3) := by decide +kernel
theorem dX6_close_45 : decode cX6_close 45 = .ok (.aload_n 0, 1) := by decide +kernel
theorem dX6_close_46 : decode cX6_close 46 = .ok (.getfield 12, 3) := by decide +kernel
theorem dX6_close_49 : decode cX6_close 49 = .ok (.getfield 33, 3) := by decide +kernel
theorem dX6_close_52 : decode cX6_close 52 = .ok (.iload_n 1, 1) := by decide +kernel
theorem dX6_close_53 : decode cX6_close 53 = .ok (.invokevirtual 94, 3) := by decide +kernel
theorem dX6_close_56 : decode cX6_close 56 = .ok (.ireturn, 1) := by decide +kernel
theorem dX6_call_0 : decode cX6_call 0 = .ok (.aload_n 0, 1) := by decide +kernel
theorem dX6_call_1 : decode cX6_call 1 = .ok (.getfield 12, 3) := by decide +kernel
theorem dX6_call_4 : decode cX6_call 4 = .ok (.getfield 61, 3) := by decide +kernel
theorem dX6_call_7 : decode cX6_call 7 = .ok (.iload_n 1, 1) := by decide +kernel
theorem dX6_call_8 : decode cX6_call 8 = .ok (.invokevirtual 100, 3) := by decide +kernel
theorem dX6_call_11 : decode cX6_call 11 = .ok (.ifCond .ne 6, 3) := by decide +kernel
theorem dX6_call_14 : decode cX6_call 14 = .ok (.ldc 47, 2) := by decide +kernel
theorem dX6_call_16 : decode cX6_call 16 = .ok (.ireturn, 1) := by decide +kernel
theorem dX6_call_17 : decode cX6_call 17 = .ok (.aload_n 0, 1) := by decide +kernel
theorem dX6_call_18 : decode cX6_call 18 = .ok (.getfield 12, 3) := by decide +kernel
theorem dX6_call_21 : decode cX6_call 21 = .ok (.getfield 61, 3) := by decide +kernel
theorem dX6_call_24 : decode cX6_call 24 = .ok (.iload_n 1, 1) := by decide +kernel
theorem dX6_call_25 : decode cX6_call 25 = .ok (.invokevirtual 101, 3) := by decide +kernel
theorem dX6_call_28 : decode cX6_call 28 = .ok (.ifCond .ne 6, 3) := by decide +kernel
theorem dX6_call_31 : decode cX6_call 31 = .ok (.ldc 83, 2) := by decide +kernel
theorem dX6_call_33 : decode cX6_call 33 = .ok (.ireturn, 1) := by decide +kernel
theorem dX6_call_34 : decode cX6_call 34 = .ok (.aload_n 0, 1) := by decide +kernel
theorem dX6_call_35 : decode cX6_call 35 = .ok (.getfield 22, 3) := by decide +kernel
theorem dX6_call_38 : decode cX6_call 38 = .ok (.aload_n 0, 1) := by decide +kernel
theorem dX6_call_39 : decode cX6_call 39 = .ok (.getfield 12, 3) := by decide +kernel
theorem dX6_call_42 : decode cX6_call 42 = .ok (.invokevirtual 53, 3) := by decide +kernel
theorem dX6_call_45 : decode cX6_call 45 = .ok (.aload_n 0, 1) := by decide +kernel
theorem dX6_call_46 : decode cX6_call 46 = .ok (.getfield 12, 3) := by decide +kernel
theorem dX6_call_49 : decode cX6_call 49 = .ok (.getfield 61, 3) := by decide +kernel
theorem dX6_call_52 : decode cX6_call 52 = .ok (.iload_n 1, 1) := by decide +kernel
theorem dX6_call_53 : decode cX6_call 53 = .ok (.invokevirtual 104, 3) := by decide +kernel
theorem dX6_call_56 : decode cX6_call 56 = .ok (.ireturn, 1) := by decide +kernel
theorem dX6_turn_0 : decode cX6_turn 0 = .ok (.aload_n 0, 1) := by decide +kernel
theorem dX6_turn_1 : decode cX6_turn 1 = .ok (.getfield 12, 3) := by decide +kernel
theorem dX6_turn_4 : decode cX6_turn 4 = .ok (.getfield 33, 3) := by decide +kernel
theorem dX6_turn_7 : decode cX6_turn 7 = .ok (.iload_n 1, 1) := by decide +kernel
theorem dX6_turn_8 : decode cX6_turn 8 = .ok (.invokevirtual 107, 3) := by decide +kernel
theorem dX6_turn_11 : decode cX6_turn 11 = .ok (.ifCond .eq 13, 3) := by decide +kernel
theorem dX6_turn_14 : decode cX6_turn 14 = .ok (.iload_n 2, 1) := by decide +kernel
theorem dX6_turn_15 : decode cX6_turn 15 = .ok (.iconst 1, 1) := by decide +kernel
theorem dX6_turn_16 : decode cX6_turn 16 = .ok (.bipush 20, 2) := by decide +kernel
theorem dX6_turn_18 : decode cX6_turn 18 = .ok (.invokestatic 43, 3) := by decide +kernel
theorem dX6_turn_21 : decode cX6_turn 21 = .ok (.ifCond .eq 6, 3) := by decide +kernel
theorem dX6_turn_24 : decode cX6_turn 24 = .ok (.ldc 47, 2) := by decide +kernel
theorem dX6_turn_26 : decode cX6_turn 26 = .ok (.ireturn, 1) := by decide +kernel
theorem dX6_turn_27 : decode cX6_turn 27 = .ok (.aload_n 0, 1) := by decide +kernel
theorem dX6_turn_28 : decode cX6_turn 28 = .ok (.getfield 12, 3) := by decide +kernel
theorem dX6_turn_31 : decode cX6_turn 31 = .ok (.getfield 110, 3) := by decide +kernel
theorem dX6_turn_34 : decode cX6_turn 34 = .ok (.getfield 114, 3) := by decide +kernel
theorem dX6_turn_37 : decode cX6_turn 37 = .ok (.bipush 8, 2) := by decide +kernel
theorem dX6_turn_39 : decode cX6_turn 39 = .ok (.if_icmp .lt 6, 3) := by decide +kernel
theorem dX6_turn_42 : decode cX6_turn 42 = .ok (.ldc 52, 2) := by decide +kernel
theorem dX6_turn_44 : decode cX6_turn 44 = .ok (.ireturn, 1) := by decide +kernel
theorem dX6_turn_45 : decode cX6_turn 45 = .ok (.aload_n 0, 1) := by decide +kernel
theorem dX6_turn_46 : decode cX6_turn 46 = .ok (.getfield 22, 3) := by decide +kernel
theorem dX6_turn_49 : decode cX6_turn 49 = .ok (.aload_n 0, 1) := by decide +kernel
theorem dX6_turn_50 : decode cX6_turn 50 = .ok (.getfield 12, 3) := by decide +kernel
theorem dX6_turn_53 : decode cX6_turn 53 = .ok (.invokevirtual 53, 3) := by decide +kernel
theorem dX6_turn_56 : decode cX6_turn 56 = .ok (.aload_n 0, 1) := by decide +kernel
theorem dX6_turn_57 : decode cX6_turn 57 = .ok (.getfield 12, 3) := by decide +kernel
theorem dX6_turn_60 : decode cX6_turn 60 = .ok (.getfield 110, 3) := by decide +kernel
theorem dX6_turn_63 : decode cX6_turn 63 = .ok (.iload_n 1, 1) := by decide +kernel
theorem dX6_turn_64 : decode cX6_turn 64 = .ok (.iload_n 2, 1) := by decide +kernel
theorem dX6_turn_65 : decode cX6_turn 65 = .ok (.invokevirtual 117, 3) := by decide +kernel
theorem dX6_turn_68 : decode cX6_turn 68 = .ok (.ireturn, 1) := by decide +kernel
theorem dX6_noTurns_0 : decode cX6_noTurns 0 = .ok (.aload_n 0, 1) := by decide +kernel
theorem dX6_noTurns_1 : decode cX6_noTurns 1 = .ok (.getfield 22, 3) := by decide +kernel
theorem dX6_noTurns_4 : decode cX6_noTurns 4 = .ok (.aload_n 0, 1) := by decide +kernel
theorem dX6_noTurns_5 : decode cX6_noTurns 5 = .ok (.getfield 12, 3) := by decide +kernel
theorem dX6_noTurns_8 : decode cX6_noTurns 8 = .ok (.invokevirtual 53, 3) := by decide +kernel
theorem dX6_noTurns_11 : decode cX6_noTurns 11 = .ok (.aload_n 0, 1) := by decide +kernel
theorem dX6_noTurns_12 : decode cX6_noTurns 12 = .ok (.getfield 12, 3) := by decide +kernel
theorem dX6_noTurns_15 : decode cX6_noTurns 15 = .ok (.getfield 110, 3) := by decide +kernel
theorem dX6_noTurns_18 : decode cX6_noTurns 18 = .ok (.invokevirtual 120, 3) := by decide +kernel
theorem dX6_noTurns_21 : decode cX6_noTurns 21 = .ok (.ireturn, 1) := by decide +kernel
theorem dX6_hour_0 : decode cX6_hour 0 = .ok (.iload_n 1, 1) := by decide +kernel
theorem dX6_hour_1 : decode cX6_hour 1 = .ok (.iconst 0, 1) := by decide +kernel
theorem dX6_hour_2 : decode cX6_hour 2 = .ok (.sipush 999, 3) := by decide +kernel
theorem dX6_hour_5 : decode cX6_hour 5 = .ok (.invokestatic 43, 3) := by decide +kernel
theorem dX6_hour_8 : decode cX6_hour 8 = .ok (.ifCond .eq 6, 3) := by decide +kernel
theorem dX6_hour_11 : decode cX6_hour 11 = .ok (.ldc 47, 2) := by decide +kernel
theorem dX6_hour_13 : decode cX6_hour 13 = .ok (.ireturn, 1) := by decide +kernel
theorem dX6_hour_14 : decode cX6_hour 14 = .ok (.aload_n 0, 1) := by decide +kernel
theorem dX6_hour_15 : decode cX6_hour 15 = .ok (.getfield 12, 3) := by decide +kernel
theorem dX6_hour_18 : decode cX6_hour 18 = .ok (.iconst 1, 1) := by decide +kernel
theorem dX6_hour_19 : decode cX6_hour 19 = .ok (.invokevirtual 124, 3) := by decide +kernel
theorem dX6_hour_22 : decode cX6_hour 22 = .ok (.ifCond .ne 6, 3) := by decide +kernel
theorem dX6_hour_25 : decode cX6_hour 25 = .ok (.ldc 52, 2) := by decide +kernel
theorem dX6_hour_27 : decode cX6_hour 27 = .ok (.ireturn, 1) := by decide +kernel
theorem dX6_hour_28 : decode cX6_hour 28 = .ok (.aload_n 0, 1) := by decide +kernel
theorem dX6_hour_29 : decode cX6_hour 29 = .ok (.getfield 22, 3) := by decide +kernel
theorem dX6_hour_32 : decode cX6_hour 32 = .ok (.aload_n 0, 1) := by decide +kernel
theorem dX6_hour_33 : decode cX6_hour 33 = .ok (.getfield 12, 3) := by decide +kernel
theorem dX6_hour_36 : decode cX6_hour 36 = .ok (.invokevirtual 53, 3) := by decide +kernel
theorem dX6_hour_39 : decode cX6_hour 39 = .ok (.aload_n 0, 1) := by decide +kernel
theorem dX6_hour_40 : decode cX6_hour 40 = .ok (.getfield 12, 3) := by decide +kernel
theorem dX6_hour_43 : decode cX6_hour 43 = .ok (.iload_n 1, 1) := by decide +kernel
theorem dX6_hour_44 : decode cX6_hour 44 = .ok (.invokevirtual 127, 3) := by decide +kernel
theorem dX6_hour_47 : decode cX6_hour 47 = .ok (.ireturn, 1) := by decide +kernel
theorem dX6_run_0 : decode cX6_run 0 = .ok (.iload_n 1, 1) := by decide +kernel
theorem dX6_run_1 : decode cX6_run 1 = .ok (.iconst 1, 1) := by decide +kernel
theorem dX6_run_2 : decode cX6_run 2 = .ok (.bipush 100, 2) := by decide +kernel
theorem dX6_run_4 : decode cX6_run 4 = .ok (.invokestatic 43, 3) := by decide +kernel
theorem dX6_run_7 : decode cX6_run 7 = .ok (.ifCond .ne 14, 3) := by decide +kernel
theorem dX6_run_10 : decode cX6_run 10 = .ok (.iload_n 2, 1) := by decide +kernel
theorem dX6_run_11 : decode cX6_run 11 = .ok (.iconst 0, 1) := by decide +kernel
theorem dX6_run_12 : decode cX6_run 12 = .ok (.sipush 999, 3) := by decide +kernel
theorem dX6_run_15 : decode cX6_run 15 = .ok (.invokestatic 43, 3) := by decide +kernel
theorem dX6_run_18 : decode cX6_run 18 = .ok (.ifCond .eq 6, 3) := by decide +kernel
theorem dX6_run_21 : decode cX6_run 21 = .ok (.ldc 47, 2) := by decide +kernel
theorem dX6_run_23 : decode cX6_run 23 = .ok (.ireturn, 1) := by decide +kernel
theorem dX6_run_24 : decode cX6_run 24 = .ok (.aload_n 0, 1) := by decide +kernel
theorem dX6_run_25 : decode cX6_run 25 = .ok (.getfield 12, 3) := by decide +kernel
theorem dX6_run_28 : decode cX6_run 28 = .ok (.iload_n 1, 1) := by decide +kernel
theorem dX6_run_29 : decode cX6_run 29 = .ok (.invokevirtual 124, 3) := by decide +kernel
theorem dX6_run_32 : decode cX6_run 32 = .ok (.ifCond .ne 6, 3) := by decide +kernel
theorem dX6_run_35 : decode cX6_run 35 = .ok (.ldc 52, 2) := by decide +kernel
theorem dX6_run_37 : decode cX6_run 37 = .ok (.ireturn, 1) := by decide +kernel
theorem dX6_run_38 : decode cX6_run 38 = .ok (.aload_n 0, 1) := by decide +kernel
theorem dX6_run_39 : decode cX6_run 39 = .ok (.getfield 22, 3) := by decide +kernel
theorem dX6_run_42 : decode cX6_run 42 = .ok (.aload_n 0, 1) := by decide +kernel
theorem dX6_run_43 : decode cX6_run 43 = .ok (.getfield 12, 3) := by decide +kernel
theorem dX6_run_46 : decode cX6_run 46 = .ok (.invokevirtual 53, 3) := by decide +kernel
theorem dX6_run_49 : decode cX6_run 49 = .ok (.aload_n 0, 1) := by decide +kernel
theorem dX6_run_50 : decode cX6_run 50 = .ok (.getfield 12, 3) := by decide +kernel
theorem dX6_run_53 : decode cX6_run 53 = .ok (.iload_n 1, 1) := by decide +kernel
theorem dX6_run_54 : decode cX6_run 54 = .ok (.iload_n 2, 1) := by decide +kernel
theorem dX6_run_55 : decode cX6_run 55 = .ok (.invokevirtual 130, 3) := by decide +kernel
theorem dX6_run_58 : decode cX6_run 58 = .ok (.ireturn, 1) := by decide +kernel
theorem dX6_canalOf_0 : decode cX6_canalOf 0 = .ok (.aload_n 0, 1) := by decide +kernel
theorem dX6_canalOf_1 : decode cX6_canalOf 1 = .ok (.getfield 12, 3) := by decide +kernel
theorem dX6_canalOf_4 : decode cX6_canalOf 4 = .ok (.getfield 33, 3) := by decide +kernel
theorem dX6_canalOf_7 : decode cX6_canalOf 7 = .ok (.astore_n 3, 1) := by decide +kernel
theorem dX6_canalOf_8 : decode cX6_canalOf 8 = .ok (.aload_n 3, 1) := by decide +kernel
theorem dX6_canalOf_9 : decode cX6_canalOf 9 = .ok (.iload_n 1, 1) := by decide +kernel
theorem dX6_canalOf_10 : decode cX6_canalOf 10 = .ok (.invokevirtual 37, 3) := by decide +kernel
theorem dX6_canalOf_13 : decode cX6_canalOf 13 = .ok (.ifCond .ne 6, 3) := by decide +kernel
theorem dX6_canalOf_16 : decode cX6_canalOf 16 = .ok (.ldc 47, 2) := by decide +kernel
theorem dX6_canalOf_18 : decode cX6_canalOf 18 = .ok (.ireturn, 1) := by decide +kernel
theorem dX6_canalOf_19 : decode cX6_canalOf 19 = .ok (.iload_n 2, 1) := by decide +kernel
theorem dX6_canalOf_20 : decode cX6_canalOf 20 = .ok (.tableswitch 167 0 9 #[56, 72, 88, 95, 102, 120, 140, 146, 153, 160], 56) := by decide +kernel
theorem dX6_canalOf_76 : decode cX6_canalOf 76 = .ok (.iload_n 1, 1) := by decide +kernel
theorem dX6_canalOf_77 : decode cX6_canalOf 77 = .ok (.ifCond .ne 8, 3) := by decide +kernel
theorem dX6_canalOf_80 : decode cX6_canalOf 80 = .ok (.ldc 133, 2) := by decide +kernel
theorem dX6_canalOf_82 : decode cX6_canalOf 82 = .ok (.goto 9, 3) := by decide +kernel
theorem dX6_canalOf_85 : decode cX6_canalOf 85 = .ok (.aload_n 3, 1) := by decide +kernel
theorem dX6_canalOf_86 : decode cX6_canalOf 86 = .ok (.getfield 134, 3) := by decide +kernel
theorem dX6_canalOf_89 : decode cX6_canalOf 89 = .ok (.iload_n 1, 1) := by decide +kernel
theorem dX6_canalOf_90 : decode cX6_canalOf 90 = .ok (.iaload, 1) := by decide +kernel
theorem dX6_canalOf_91 : decode cX6_canalOf 91 = .ok (.ireturn, 1) := by decide +kernel
theorem dX6_canalOf_92 : decode cX6_canalOf 92 = .ok (.iload_n 1, 1) := by decide +kernel
theorem dX6_canalOf_93 : decode cX6_canalOf 93 = .ok (.ifCond .ne 8, 3) := by decide +kernel
theorem dX6_canalOf_96 : decode cX6_canalOf 96 = .ok (.ldc 133, 2) := by decide +kernel
theorem dX6_canalOf_98 : decode cX6_canalOf 98 = .ok (.goto 9, 3) := by decide +kernel
theorem dX6_canalOf_101 : decode cX6_canalOf 101 = .ok (.aload_n 3, 1) := by decide +kernel
theorem dX6_canalOf_102 : decode cX6_canalOf 102 = .ok (.getfield 75, 3) := by decide +kernel
theorem dX6_canalOf_105 : decode cX6_canalOf 105 = .ok (.iload_n 1, 1) := by decide +kernel
theorem dX6_canalOf_106 : decode cX6_canalOf 106 = .ok (.iaload, 1) := by decide +kernel
theorem dX6_canalOf_107 : decode cX6_canalOf 107 = .ok (.ireturn, 1) := by decide +kernel
theorem dX6_canalOf_108 : decode cX6_canalOf 108 = .ok (.aload_n 3, 1) := by decide +kernel
theorem dX6_canalOf_109 : decode cX6_canalOf 109 = .ok (.getfield 137, 3) := by decide +kernel
theorem dX6_canalOf_112 : decode cX6_canalOf 112 = .ok (.iload_n 1, 1) := by decide +kernel
theorem dX6_canalOf_113 : decode cX6_canalOf 113 = .ok (.iaload, 1) := by decide +kernel
theorem dX6_canalOf_114 : decode cX6_canalOf 114 = .ok (.ireturn, 1) := by decide +kernel
theorem dX6_canalOf_115 : decode cX6_canalOf 115 = .ok (.aload_n 3, 1) := by decide +kernel
theorem dX6_canalOf_116 : decode cX6_canalOf 116 = .ok (.getfield 140, 3) := by decide +kernel
theorem dX6_canalOf_119 : decode cX6_canalOf 119 = .ok (.iload_n 1, 1) := by decide +kernel
theorem dX6_canalOf_120 : decode cX6_canalOf 120 = .ok (.iaload, 1) := by decide +kernel
theorem dX6_canalOf_121 : decode cX6_canalOf 121 = .ok (.ireturn, 1) := by decide +kernel
theorem dX6_canalOf_122 : decode cX6_canalOf 122 = .ok (.iload_n 1, 1) := by decide +kernel
theorem dX6_canalOf_123 : decode cX6_canalOf 123 = .ok (.ifCond .ne 8, 3) := by decide +kernel
theorem dX6_canalOf_126 : decode cX6_canalOf 126 = .ok (.ldc 133, 2) := by decide +kernel
theorem dX6_canalOf_128 : decode cX6_canalOf 128 = .ok (.goto 11, 3) := by decide +kernel
theorem dX6_canalOf_131 : decode cX6_canalOf 131 = .ok (.aload_n 3, 1) := by decide +kernel
theorem dX6_canalOf_132 : decode cX6_canalOf 132 = .ok (.iload_n 1, 1) := by decide +kernel
theorem dX6_canalOf_133 : decode cX6_canalOf 133 = .ok (.invokevirtual 143, 3) := by decide +kernel
theorem dX6_canalOf_136 : decode cX6_canalOf 136 = .ok (.invokestatic 146, 3) := by decide +kernel
theorem dX6_canalOf_139 : decode cX6_canalOf 139 = .ok (.ireturn, 1) := by decide +kernel
theorem dX6_canalOf_140 : decode cX6_canalOf 140 = .ok (.aload_n 3, 1) := by decide +kernel
theorem dX6_canalOf_141 : decode cX6_canalOf 141 = .ok (.iload_n 1, 1) := by decide +kernel
theorem dX6_canalOf_142 : decode cX6_canalOf 142 = .ok (.invokevirtual 72, 3) := by decide +kernel
theorem dX6_canalOf_145 : decode cX6_canalOf 145 = .ok (.ifCond .eq 12, 3) := by decide +kernel
theorem dX6_canalOf_148 : decode cX6_canalOf 148 = .ok (.aload_n 3, 1) := by decide +kernel
theorem dX6_canalOf_149 : decode cX6_canalOf 149 = .ok (.getfield 88, 3) := by decide +kernel
theorem dX6_canalOf_152 : decode cX6_canalOf 152 = .ok (.iload_n 1, 1) := by decide +kernel
theorem dX6_canalOf_153 : decode cX6_canalOf 153 = .ok (.iaload, 1) := by decide +kernel
theorem dX6_canalOf_154 : decode cX6_canalOf 154 = .ok (.goto 5, 3) := by decide +kernel
theorem dX6_canalOf_157 : decode cX6_canalOf 157 = .ok (.ldc 133, 2) := by decide +kernel
theorem dX6_canalOf_159 : decode cX6_canalOf 159 = .ok (.ireturn, 1) := by decide +kernel
theorem dX6_canalOf_160 : decode cX6_canalOf 160 = .ok (.aload_n 3, 1) := by decide +kernel
theorem dX6_canalOf_161 : decode cX6_canalOf 161 = .ok (.iload_n 1, 1) := by decide +kernel
theorem dX6_canalOf_162 : decode cX6_canalOf 162 = .ok (.invokevirtual 150, 3) := by decide +kernel
theorem dX6_canalOf_165 : decode cX6_canalOf 165 = .ok (.ireturn, 1) := by decide +kernel
theorem dX6_canalOf_166 : decode cX6_canalOf 166 = .ok (.aload_n 3, 1) := by decide +kernel
theorem dX6_canalOf_167 : decode cX6_canalOf 167 = .ok (.getfield 153, 3) := by decide +kernel
theorem dX6_canalOf_170 : decode cX6_canalOf 170 = .ok (.iload_n 1, 1) := by decide +kernel
theorem dX6_canalOf_171 : decode cX6_canalOf 171 = .ok (.iaload, 1) := by decide +kernel
theorem dX6_canalOf_172 : decode cX6_canalOf 172 = .ok (.ireturn, 1) := by decide +kernel
theorem dX6_canalOf_173 : decode cX6_canalOf 173 = .ok (.aload_n 3, 1) := by decide +kernel
theorem dX6_canalOf_174 : decode cX6_canalOf 174 = .ok (.getfield 156, 3) := by decide +kernel
theorem dX6_canalOf_177 : decode cX6_canalOf 177 = .ok (.iload_n 1, 1) := by decide +kernel
theorem dX6_canalOf_178 : decode cX6_canalOf 178 = .ok (.iaload, 1) := by decide +kernel
theorem dX6_canalOf_179 : decode cX6_canalOf 179 = .ok (.ireturn, 1) := by decide +kernel
theorem dX6_canalOf_180 : decode cX6_canalOf 180 = .ok (.aload_n 3, 1) := by decide +kernel
theorem dX6_canalOf_181 : decode cX6_canalOf 181 = .ok (.getfield 159, 3) := by decide +kernel
theorem dX6_canalOf_184 : decode cX6_canalOf 184 = .ok (.iload_n 1, 1) := by decide +kernel
theorem dX6_canalOf_185 : decode cX6_canalOf 185 = .ok (.iaload, 1) := by decide +kernel
theorem dX6_canalOf_186 : decode cX6_canalOf 186 = .ok (.ireturn, 1) := by decide +kernel
theorem dX6_canalOf_187 : decode cX6_canalOf 187 = .ok (.ldc 47, 2) := by decide +kernel
theorem dX6_canalOf_189 : decode cX6_canalOf 189 = .ok (.ireturn, 1) := by decide +kernel
theorem dX6_fieldOf_0 : decode cX6_fieldOf 0 = .ok (.aload_n 0, 1) := by decide +kernel
theorem dX6_fieldOf_1 : decode cX6_fieldOf 1 = .ok (.getfield 12, 3) := by decide +kernel
theorem dX6_fieldOf_4 : decode cX6_fieldOf 4 = .ok (.getfield 61, 3) := by decide +kernel
theorem dX6_fieldOf_7 : decode cX6_fieldOf 7 = .ok (.astore_n 3, 1) := by decide +kernel
theorem dX6_fieldOf_8 : decode cX6_fieldOf 8 = .ok (.aload_n 3, 1) := by decide +kernel
theorem dX6_fieldOf_9 : decode cX6_fieldOf 9 = .ok (.iload_n 1, 1) := by decide +kernel
theorem dX6_fieldOf_10 : decode cX6_fieldOf 10 = .ok (.invokevirtual 100, 3) := by decide +kernel
theorem dX6_fieldOf_13 : decode cX6_fieldOf 13 = .ok (.ifCond .ne 6, 3) := by decide +kernel
theorem dX6_fieldOf_16 : decode cX6_fieldOf 16 = .ok (.ldc 47, 2) := by decide +kernel
theorem dX6_fieldOf_18 : decode cX6_fieldOf 18 = .ok (.ireturn, 1) := by decide +kernel
theorem dX6_fieldOf_19 : decode cX6_fieldOf 19 = .ok (.iload_n 2, 1) := by decide +kernel
theorem dX6_fieldOf_20 : decode cX6_fieldOf 20 = .ok (.tableswitch 131 0 7 #[48, 55, 62, 69, 76, 83, 92, 111], 48) := by decide +kernel
theorem dX6_fieldOf_68 : decode cX6_fieldOf 68 = .ok (.aload_n 3, 1) := by decide +kernel
theorem dX6_fieldOf_69 : decode cX6_fieldOf 69 = .ok (.getfield 162, 3) := by decide +kernel
theorem dX6_fieldOf_72 : decode cX6_fieldOf 72 = .ok (.iload_n 1, 1) := by decide +kernel
theorem dX6_fieldOf_73 : decode cX6_fieldOf 73 = .ok (.iaload, 1) := by decide +kernel
theorem dX6_fieldOf_74 : decode cX6_fieldOf 74 = .ok (.ireturn, 1) := by decide +kernel
theorem dX6_fieldOf_75 : decode cX6_fieldOf 75 = .ok (.aload_n 3, 1) := by decide +kernel
theorem dX6_fieldOf_76 : decode cX6_fieldOf 76 = .ok (.getfield 165, 3) := by decide +kernel
theorem dX6_fieldOf_79 : decode cX6_fieldOf 79 = .ok (.iload_n 1, 1) := by decide +kernel
theorem dX6_fieldOf_80 : decode cX6_fieldOf 80 = .ok (.iaload, 1) := by decide +kernel
theorem dX6_fieldOf_81 : decode cX6_fieldOf 81 = .ok (.ireturn, 1) := by decide +kernel
theorem dX6_fieldOf_82 : decode cX6_fieldOf 82 = .ok (.aload_n 3, 1) := by decide +kernel
theorem dX6_fieldOf_83 : decode cX6_fieldOf 83 = .ok (.getfield 168, 3) := by decide +kernel
theorem dX6_fieldOf_86 : decode cX6_fieldOf 86 = .ok (.iload_n 1, 1) := by decide +kernel
theorem dX6_fieldOf_87 : decode cX6_fieldOf 87 = .ok (.iaload, 1) := by decide +kernel
theorem dX6_fieldOf_88 : decode cX6_fieldOf 88 = .ok (.ireturn, 1) := by decide +kernel
theorem dX6_fieldOf_89 : decode cX6_fieldOf 89 = .ok (.aload_n 3, 1) := by decide +kernel
theorem dX6_fieldOf_90 : decode cX6_fieldOf 90 = .ok (.getfield 171, 3) := by decide +kernel
theorem dX6_fieldOf_93 : decode cX6_fieldOf 93 = .ok (.iload_n 1, 1) := by decide +kernel
theorem dX6_fieldOf_94 : decode cX6_fieldOf 94 = .ok (.iaload, 1) := by decide +kernel
theorem dX6_fieldOf_95 : decode cX6_fieldOf 95 = .ok (.ireturn, 1) := by decide +kernel
theorem dX6_fieldOf_96 : decode cX6_fieldOf 96 = .ok (.aload_n 3, 1) := by decide +kernel
theorem dX6_fieldOf_97 : decode cX6_fieldOf 97 = .ok (.getfield 174, 3) := by decide +kernel
theorem dX6_fieldOf_100 : decode cX6_fieldOf 100 = .ok (.iload_n 1, 1) := by decide +kernel
theorem dX6_fieldOf_101 : decode cX6_fieldOf 101 = .ok (.iaload, 1) := by decide +kernel
theorem dX6_fieldOf_102 : decode cX6_fieldOf 102 = .ok (.ireturn, 1) := by decide +kernel
theorem dX6_fieldOf_103 : decode cX6_fieldOf 103 = .ok (.aload_n 3, 1) := by decide +kernel
theorem dX6_fieldOf_104 : decode cX6_fieldOf 104 = .ok (.iload_n 1, 1) := by decide +kernel
theorem dX6_fieldOf_105 : decode cX6_fieldOf 105 = .ok (.invokevirtual 177, 3) := by decide +kernel
theorem dX6_fieldOf_108 : decode cX6_fieldOf 108 = .ok (.invokestatic 146, 3) := by decide +kernel
theorem dX6_fieldOf_111 : decode cX6_fieldOf 111 = .ok (.ireturn, 1) := by decide +kernel
theorem dX6_fieldOf_112 : decode cX6_fieldOf 112 = .ok (.aload_n 0, 1) := by decide +kernel
theorem dX6_fieldOf_113 : decode cX6_fieldOf 113 = .ok (.getfield 12, 3) := by decide +kernel
theorem dX6_fieldOf_116 : decode cX6_fieldOf 116 = .ok (.invokevirtual 180, 3) := by decide +kernel
theorem dX6_fieldOf_119 : decode cX6_fieldOf 119 = .ok (.aload_n 0, 1) := by decide +kernel
theorem dX6_fieldOf_120 : decode cX6_fieldOf 120 = .ok (.getfield 12, 3) := by decide +kernel
theorem dX6_fieldOf_123 : decode cX6_fieldOf 123 = .ok (.iload_n 1, 1) := by decide +kernel
theorem dX6_fieldOf_124 : decode cX6_fieldOf 124 = .ok (.invokevirtual 183, 3) := by decide +kernel
theorem dX6_fieldOf_127 : decode cX6_fieldOf 127 = .ok (.invokestatic 146, 3) := by decide +kernel
theorem dX6_fieldOf_130 : decode cX6_fieldOf 130 = .ok (.ireturn, 1) := by decide +kernel
theorem dX6_fieldOf_131 : decode cX6_fieldOf 131 = .ok (.aload_n 3, 1) := by decide +kernel
theorem dX6_fieldOf_132 : decode cX6_fieldOf 132 = .ok (.iload_n 1, 1) := by decide +kernel
theorem dX6_fieldOf_133 : decode cX6_fieldOf 133 = .ok (.invokevirtual 186, 3) := by decide +kernel
theorem dX6_fieldOf_136 : decode cX6_fieldOf 136 = .ok (.ifCond .eq 8, 3) := by decide +kernel
theorem dX6_fieldOf_139 : decode cX6_fieldOf 139 = .ok (.ldc 133, 2) := by decide +kernel
theorem dX6_fieldOf_141 : decode cX6_fieldOf 141 = .ok (.goto 9, 3) := by decide +kernel
theorem dX6_fieldOf_144 : decode cX6_fieldOf 144 = .ok (.aload_n 3, 1) := by decide +kernel
theorem dX6_fieldOf_145 : decode cX6_fieldOf 145 = .ok (.getfield 189, 3) := by decide +kernel
theorem dX6_fieldOf_148 : decode cX6_fieldOf 148 = .ok (.iload_n 1, 1) := by decide +kernel
theorem dX6_fieldOf_149 : decode cX6_fieldOf 149 = .ok (.iaload, 1) := by decide +kernel
theorem dX6_fieldOf_150 : decode cX6_fieldOf 150 = .ok (.ireturn, 1) := by decide +kernel
theorem dX6_fieldOf_151 : decode cX6_fieldOf 151 = .ok (.ldc 47, 2) := by decide +kernel
theorem dX6_fieldOf_153 : decode cX6_fieldOf 153 = .ok (.ireturn, 1) := by decide +kernel
theorem dX6_turnOf_0 : decode cX6_turnOf 0 = .ok (.aload_n 0, 1) := by decide +kernel
theorem dX6_turnOf_1 : decode cX6_turnOf 1 = .ok (.getfield 12, 3) := by decide +kernel
theorem dX6_turnOf_4 : decode cX6_turnOf 4 = .ok (.getfield 110, 3) := by decide +kernel
theorem dX6_turnOf_7 : decode cX6_turnOf 7 = .ok (.iload_n 1, 1) := by decide +kernel
theorem dX6_turnOf_8 : decode cX6_turnOf 8 = .ok (.invokevirtual 192, 3) := by decide +kernel
theorem dX6_turnOf_11 : decode cX6_turnOf 11 = .ok (.ifCond .ne 6, 3) := by decide +kernel
theorem dX6_turnOf_14 : decode cX6_turnOf 14 = .ok (.ldc 47, 2) := by decide +kernel
theorem dX6_turnOf_16 : decode cX6_turnOf 16 = .ok (.ireturn, 1) := by decide +kernel
theorem dX6_turnOf_17 : decode cX6_turnOf 17 = .ok (.iload_n 2, 1) := by decide +kernel
theorem dX6_turnOf_18 : decode cX6_turnOf 18 = .ok (.lookupswitch 52 #[(0, 26), (1, 39)], 26) := by decide +kernel
theorem dX6_turnOf_44 : decode cX6_turnOf 44 = .ok (.aload_n 0, 1) := by decide +kernel
theorem dX6_turnOf_45 : decode cX6_turnOf 45 = .ok (.getfield 12, 3) := by decide +kernel
theorem dX6_turnOf_48 : decode cX6_turnOf 48 = .ok (.getfield 110, 3) := by decide +kernel
theorem dX6_turnOf_51 : decode cX6_turnOf 51 = .ok (.getfield 193, 3) := by decide +kernel
theorem dX6_turnOf_54 : decode cX6_turnOf 54 = .ok (.iload_n 1, 1) := by decide +kernel
theorem dX6_turnOf_55 : decode cX6_turnOf 55 = .ok (.iaload, 1) := by decide +kernel
theorem dX6_turnOf_56 : decode cX6_turnOf 56 = .ok (.ireturn, 1) := by decide +kernel
theorem dX6_turnOf_57 : decode cX6_turnOf 57 = .ok (.aload_n 0, 1) := by decide +kernel
theorem dX6_turnOf_58 : decode cX6_turnOf 58 = .ok (.getfield 12, 3) := by decide +kernel
theorem dX6_turnOf_61 : decode cX6_turnOf 61 = .ok (.getfield 110, 3) := by decide +kernel
theorem dX6_turnOf_64 : decode cX6_turnOf 64 = .ok (.getfield 196, 3) := by decide +kernel
theorem dX6_turnOf_67 : decode cX6_turnOf 67 = .ok (.iload_n 1, 1) := by decide +kernel
theorem dX6_turnOf_68 : decode cX6_turnOf 68 = .ok (.iaload, 1) := by decide +kernel
theorem dX6_turnOf_69 : decode cX6_turnOf 69 = .ok (.ireturn, 1) := by decide +kernel
theorem dX6_turnOf_70 : decode cX6_turnOf 70 = .ok (.ldc 47, 2) := by decide +kernel
theorem dX6_turnOf_72 : decode cX6_turnOf 72 = .ok (.ireturn, 1) := by decide +kernel
theorem dX6_share_0 : decode cX6_share 0 = .ok (.iload_n 1, 1) := by decide +kernel
theorem dX6_share_1 : decode cX6_share 1 = .ok (.iconst 0, 1) := by decide +kernel
theorem dX6_share_2 : decode cX6_share 2 = .ok (.iconst 2, 1) := by decide +kernel
theorem dX6_share_3 : decode cX6_share 3 = .ok (.invokestatic 43, 3) := by decide +kernel
theorem dX6_share_6 : decode cX6_share 6 = .ok (.ifCond .eq 6, 3) := by decide +kernel
theorem dX6_share_9 : decode cX6_share 9 = .ok (.ldc 47, 2) := by decide +kernel
theorem dX6_share_11 : decode cX6_share 11 = .ok (.ireturn, 1) := by decide +kernel
theorem dX6_share_12 : decode cX6_share 12 = .ok (.aload_n 0, 1) := by decide +kernel
theorem dX6_share_13 : decode cX6_share 13 = .ok (.getfield 12, 3) := by decide +kernel
theorem dX6_share_16 : decode cX6_share 16 = .ok (.getfield 199, 3) := by decide +kernel
theorem dX6_share_19 : decode cX6_share 19 = .ok (.ifCond .ne 6, 3) := by decide +kernel
theorem dX6_share_22 : decode cX6_share 22 = .ok (.ldc 133, 2) := by decide +kernel
theorem dX6_share_24 : decode cX6_share 24 = .ok (.ireturn, 1) := by decide +kernel
theorem dX6_share_25 : decode cX6_share 25 = .ok (.iload_n 1, 1) := by decide +kernel
theorem dX6_share_26 : decode cX6_share 26 = .ok (.lookupswitch 66 #[(0, 26), (1, 46)], 26) := by decide +kernel
theorem dX6_share_52 : decode cX6_share 52 = .ok (.aload_n 0, 1) := by decide +kernel
theorem dX6_share_53 : decode cX6_share 53 = .ok (.getfield 12, 3) := by decide +kernel
theorem dX6_share_56 : decode cX6_share 56 = .ok (.getfield 202, 3) := by decide +kernel
theorem dX6_share_59 : decode cX6_share 59 = .ok (.i2l, 1) := by decide +kernel
theorem dX6_share_60 : decode cX6_share 60 = .ok (.aload_n 0, 1) := by decide +kernel
theorem dX6_share_61 : decode cX6_share 61 = .ok (.getfield 12, 3) := by decide +kernel
theorem dX6_share_64 : decode cX6_share 64 = .ok (.getfield 199, 3) := by decide +kernel
theorem dX6_share_67 : decode cX6_share 67 = .ok (.i2l, 1) := by decide +kernel
theorem dX6_share_68 : decode cX6_share 68 = .ok (.invokestatic 204, 3) := by decide +kernel
theorem dX6_share_71 : decode cX6_share 71 = .ok (.ireturn, 1) := by decide +kernel
theorem dX6_share_72 : decode cX6_share 72 = .ok (.aload_n 0, 1) := by decide +kernel
theorem dX6_share_73 : decode cX6_share 73 = .ok (.getfield 12, 3) := by decide +kernel
theorem dX6_share_76 : decode cX6_share 76 = .ok (.getfield 208, 3) := by decide +kernel
theorem dX6_share_79 : decode cX6_share 79 = .ok (.i2l, 1) := by decide +kernel
theorem dX6_share_80 : decode cX6_share 80 = .ok (.aload_n 0, 1) := by decide +kernel
theorem dX6_share_81 : decode cX6_share 81 = .ok (.getfield 12, 3) := by decide +kernel
theorem dX6_share_84 : decode cX6_share 84 = .ok (.getfield 199, 3) := by decide +kernel
theorem dX6_share_87 : decode cX6_share 87 = .ok (.i2l, 1) := by decide +kernel
theorem dX6_share_88 : decode cX6_share 88 = .ok (.invokestatic 204, 3) := by decide +kernel
theorem dX6_share_91 : decode cX6_share 91 = .ok (.ireturn, 1) := by decide +kernel
theorem dX6_share_92 : decode cX6_share 92 = .ok (.aload_n 0, 1) := by decide +kernel
theorem dX6_share_93 : decode cX6_share 93 = .ok (.getfield 12, 3) := by decide +kernel
theorem dX6_share_96 : decode cX6_share 96 = .ok (.getfield 210, 3) := by decide +kernel
theorem dX6_share_99 : decode cX6_share 99 = .ok (.i2l, 1) := by decide +kernel
theorem dX6_share_100 : decode cX6_share 100 = .ok (.aload_n 0, 1) := by decide +kernel
theorem dX6_share_101 : decode cX6_share 101 = .ok (.getfield 12, 3) := by decide +kernel
theorem dX6_share_104 : decode cX6_share 104 = .ok (.getfield 199, 3) := by decide +kernel
theorem dX6_share_107 : decode cX6_share 107 = .ok (.i2l, 1) := by decide +kernel
theorem dX6_share_108 : decode cX6_share 108 = .ok (.invokestatic 204, 3) := by decide +kernel
theorem dX6_share_111 : decode cX6_share 111 = .ok (.ireturn, 1) := by decide +kernel
theorem dX6_would_0 : decode cX6_would 0 = .ok (.iload_n 3, 1) := by decide +kernel
theorem dX6_would_1 : decode cX6_would 1 = .ok (.bipush 10, 2) := by decide +kernel
theorem dX6_would_3 : decode cX6_would 3 = .ok (.if_icmp .lt 24, 3) := by decide +kernel
theorem dX6_would_6 : decode cX6_would 6 = .ok (.aload_n 0, 1) := by decide +kernel
theorem dX6_would_7 : decode cX6_would 7 = .ok (.getfield 12, 3) := by decide +kernel
theorem dX6_would_10 : decode cX6_would 10 = .ok (.getfield 61, 3) := by decide +kernel
theorem dX6_would_13 : decode cX6_would 13 = .ok (.iload_n 3, 1) := by decide +kernel
theorem dX6_would_14 : decode cX6_would 14 = .ok (.bipush 10, 2) := by decide +kernel
theorem dX6_would_16 : decode cX6_would 16 = .ok (.isub, 1) := by decide +kernel
theorem dX6_would_17 : decode cX6_would 17 = .ok (.invokevirtual 100, 3) := by decide +kernel
theorem dX6_would_20 : decode cX6_would 20 = .ok (.ifCond .eq 7, 3) := by decide +kernel
theorem dX6_would_23 : decode cX6_would 23 = .ok (.iconst 1, 1) := by decide +kernel
theorem dX6_would_24 : decode cX6_would 24 = .ok (.goto 4, 3) := by decide +kernel
theorem dX6_would_27 : decode cX6_would 27 = .ok (.iconst 0, 1) := by decide +kernel
theorem dX6_would_28 : decode cX6_would 28 = .ok (.istore 4, 2) := by decide +kernel
theorem dX6_would_30 : decode cX6_would 30 = .ok (.aload_n 0, 1) := by decide +kernel
theorem dX6_would_31 : decode cX6_would 31 = .ok (.getfield 12, 3) := by decide +kernel
theorem dX6_would_34 : decode cX6_would 34 = .ok (.getfield 33, 3) := by decide +kernel
theorem dX6_would_37 : decode cX6_would 37 = .ok (.iload_n 1, 1) := by decide +kernel
theorem dX6_would_38 : decode cX6_would 38 = .ok (.invokevirtual 107, 3) := by decide +kernel
theorem dX6_would_41 : decode cX6_would 41 = .ok (.ifCond .eq 28, 3) := by decide +kernel
theorem dX6_would_44 : decode cX6_would 44 = .ok (.iload_n 2, 1) := by decide +kernel
theorem dX6_would_45 : decode cX6_would 45 = .ok (.iconst 0, 1) := by decide +kernel
theorem dX6_would_46 : decode cX6_would 46 = .ok (.sipush 999, 3) := by decide +kernel
theorem dX6_would_49 : decode cX6_would 49 = .ok (.invokestatic 43, 3) := by decide +kernel
theorem dX6_would_52 : decode cX6_would 52 = .ok (.ifCond .ne 17, 3) := by decide +kernel
theorem dX6_would_55 : decode cX6_would 55 = .ok (.iload_n 3, 1) := by decide +kernel
theorem dX6_would_56 : decode cX6_would 56 = .ok (.iconst 0, 1) := by decide +kernel
theorem dX6_would_57 : decode cX6_would 57 = .ok (.iconst 2, 1) := by decide +kernel
theorem dX6_would_58 : decode cX6_would 58 = .ok (.invokestatic 43, 3) := by decide +kernel
theorem dX6_would_61 : decode cX6_would 61 = .ok (.ifCond .eq 11, 3) := by decide +kernel
theorem dX6_would_64 : decode cX6_would 64 = .ok (.iload 4, 2) := by decide +kernel
theorem dX6_would_66 : decode cX6_would 66 = .ok (.ifCond .ne 6, 3) := by decide +kernel
theorem dX6_would_69 : decode cX6_would 69 = .ok (.ldc 47, 2) := by decide +kernel
theorem dX6_would_71 : decode cX6_would 71 = .ok (.ireturn, 1) := by decide +kernel
theorem dX6_would_72 : decode cX6_would 72 = .ok (.aload_n 0, 1) := by decide +kernel
theorem dX6_would_73 : decode cX6_would 73 = .ok (.getfield 16, 3) := by decide +kernel
theorem dX6_would_76 : decode cX6_would 76 = .ok (.aload_n 0, 1) := by decide +kernel
theorem dX6_would_77 : decode cX6_would 77 = .ok (.getfield 12, 3) := by decide +kernel
theorem dX6_would_80 : decode cX6_would 80 = .ok (.invokevirtual 212, 3) := by decide +kernel
theorem dX6_would_83 : decode cX6_would 83 = .ok (.aload_n 0, 1) := by decide +kernel
theorem dX6_would_84 : decode cX6_would 84 = .ok (.getfield 16, 3) := by decide +kernel
theorem dX6_would_87 : decode cX6_would 87 = .ok (.getfield 33, 3) := by decide +kernel
theorem dX6_would_90 : decode cX6_would 90 = .ok (.iload_n 1, 1) := by decide +kernel
theorem dX6_would_91 : decode cX6_would 91 = .ok (.putfield 215, 3) := by decide +kernel
theorem dX6_would_94 : decode cX6_would 94 = .ok (.aload_n 0, 1) := by decide +kernel
theorem dX6_would_95 : decode cX6_would 95 = .ok (.getfield 16, 3) := by decide +kernel
theorem dX6_would_98 : decode cX6_would 98 = .ok (.iload_n 2, 1) := by decide +kernel
theorem dX6_would_99 : decode cX6_would 99 = .ok (.invokevirtual 127, 3) := by decide +kernel
theorem dX6_would_102 : decode cX6_would 102 = .ok (.pop, 1) := by decide +kernel
theorem dX6_would_103 : decode cX6_would 103 = .ok (.iload_n 3, 1) := by decide +kernel
theorem dX6_would_104 : decode cX6_would 104 = .ok (.tableswitch 76 0 2 #[28, 44, 60], 28) := by decide +kernel
theorem dX6_would_132 : decode cX6_would 132 = .ok (.aload_n 0, 1) := by decide +kernel
theorem dX6_would_133 : decode cX6_would 133 = .ok (.getfield 16, 3) := by decide +kernel
theorem dX6_would_136 : decode cX6_would 136 = .ok (.getfield 202, 3) := by decide +kernel
theorem dX6_would_139 : decode cX6_would 139 = .ok (.aload_n 0, 1) := by decide +kernel
theorem dX6_would_140 : decode cX6_would 140 = .ok (.getfield 12, 3) := by decide +kernel
theorem dX6_would_143 : decode cX6_would 143 = .ok (.getfield 202, 3) := by decide +kernel
theorem dX6_would_146 : decode cX6_would 146 = .ok (.isub, 1) := by decide +kernel
theorem dX6_would_147 : decode cX6_would 147 = .ok (.ireturn, 1) := by decide +kernel
theorem dX6_would_148 : decode cX6_would 148 = .ok (.aload_n 0, 1) := by decide +kernel
theorem dX6_would_149 : decode cX6_would 149 = .ok (.getfield 16, 3) := by decide +kernel
theorem dX6_would_152 : decode cX6_would 152 = .ok (.getfield 208, 3) := by decide +kernel
theorem dX6_would_155 : decode cX6_would 155 = .ok (.aload_n 0, 1) := by decide +kernel
theorem dX6_would_156 : decode cX6_would 156 = .ok (.getfield 12, 3) := by decide +kernel
theorem dX6_would_159 : decode cX6_would 159 = .ok (.getfield 208, 3) := by decide +kernel
theorem dX6_would_162 : decode cX6_would 162 = .ok (.isub, 1) := by decide +kernel
theorem dX6_would_163 : decode cX6_would 163 = .ok (.ireturn, 1) := by decide +kernel
theorem dX6_would_164 : decode cX6_would 164 = .ok (.aload_n 0, 1) := by decide +kernel
theorem dX6_would_165 : decode cX6_would 165 = .ok (.getfield 16, 3) := by decide +kernel
theorem dX6_would_168 : decode cX6_would 168 = .ok (.getfield 210, 3) := by decide +kernel
theorem dX6_would_171 : decode cX6_would 171 = .ok (.aload_n 0, 1) := by decide +kernel
theorem dX6_would_172 : decode cX6_would 172 = .ok (.getfield 12, 3) := by decide +kernel
theorem dX6_would_175 : decode cX6_would 175 = .ok (.getfield 210, 3) := by decide +kernel
theorem dX6_would_178 : decode cX6_would 178 = .ok (.isub, 1) := by decide +kernel
theorem dX6_would_179 : decode cX6_would 179 = .ok (.ireturn, 1) := by decide +kernel
theorem dX6_would_180 : decode cX6_would 180 = .ok (.aload_n 0, 1) := by decide +kernel
theorem dX6_would_181 : decode cX6_would 181 = .ok (.iload_n 3, 1) := by decide +kernel
theorem dX6_would_182 : decode cX6_would 182 = .ok (.bipush 10, 2) := by decide +kernel
theorem dX6_would_184 : decode cX6_would 184 = .ok (.isub, 1) := by decide +kernel
theorem dX6_would_185 : decode cX6_would 185 = .ok (.invokevirtual 218, 3) := by decide +kernel
theorem dX6_would_188 : decode cX6_would 188 = .ok (.ireturn, 1) := by decide +kernel
theorem dX6_leastGates_0 : decode cX6_leastGates 0 = .ok (.aload_n 0, 1) := by decide +kernel
theorem dX6_leastGates_1 : decode cX6_leastGates 1 = .ok (.getfield 12, 3) := by decide +kernel
theorem dX6_leastGates_4 : decode cX6_leastGates 4 = .ok (.getfield 61, 3) := by decide +kernel
theorem dX6_leastGates_7 : decode cX6_leastGates 7 = .ok (.iload_n 1, 1) := by decide +kernel
theorem dX6_leastGates_8 : decode cX6_leastGates 8 = .ok (.invokevirtual 221, 3) := by decide +kernel
theorem dX6_leastGates_11 : decode cX6_leastGates 11 = .ok (.ifCond .eq 23, 3) := by decide +kernel
theorem dX6_leastGates_14 : decode cX6_leastGates 14 = .ok (.iload_n 2, 1) := by decide +kernel
theorem dX6_leastGates_15 : decode cX6_leastGates 15 = .ok (.iconst 0, 1) := by decide +kernel
theorem dX6_leastGates_16 : decode cX6_leastGates 16 = .ok (.sipush 999, 3) := by decide +kernel
theorem dX6_leastGates_19 : decode cX6_leastGates 19 = .ok (.invokestatic 43, 3) := by decide +kernel
theorem dX6_leastGates_22 : decode cX6_leastGates 22 = .ok (.ifCond .ne 12, 3) := by decide +kernel
theorem dX6_leastGates_25 : decode cX6_leastGates 25 = .ok (.iload_n 3, 1) := by decide +kernel
theorem dX6_leastGates_26 : decode cX6_leastGates 26 = .ok (.iconst 1, 1) := by decide +kernel
theorem dX6_leastGates_27 : decode cX6_leastGates 27 = .ok (.iconst 5, 1) := by decide +kernel
theorem dX6_leastGates_28 : decode cX6_leastGates 28 = .ok (.invokestatic 43, 3) := by decide +kernel
theorem dX6_leastGates_31 : decode cX6_leastGates 31 = .ok (.ifCond .eq 6, 3) := by decide +kernel
theorem dX6_leastGates_34 : decode cX6_leastGates 34 = .ok (.ldc 47, 2) := by decide +kernel
theorem dX6_leastGates_36 : decode cX6_leastGates 36 = .ok (.ireturn, 1) := by decide +kernel
theorem dX6_leastGates_37 : decode cX6_leastGates 37 = .ok (.ldc 133, 2) := by decide +kernel
theorem dX6_leastGates_39 : decode cX6_leastGates 39 = .ok (.istore 4, 2) := by decide +kernel
theorem dX6_leastGates_41 : decode cX6_leastGates 41 = .ok (.aload_n 0, 1) := by decide +kernel
theorem dX6_leastGates_42 : decode cX6_leastGates 42 = .ok (.getfield 12, 3) := by decide +kernel
theorem dX6_leastGates_45 : decode cX6_leastGates 45 = .ok (.getfield 33, 3) := by decide +kernel
theorem dX6_leastGates_48 : decode cX6_leastGates 48 = .ok (.invokevirtual 224, 3) := by decide +kernel
theorem dX6_leastGates_51 : decode cX6_leastGates 51 = .ok (.istore 5, 2) := by decide +kernel
theorem dX6_leastGates_53 : decode cX6_leastGates 53 = .ok (.iconst 0, 1) := by decide +kernel
theorem dX6_leastGates_54 : decode cX6_leastGates 54 = .ok (.istore 6, 2) := by decide +kernel
theorem dX6_leastGates_56 : decode cX6_leastGates 56 = .ok (.iload 6, 2) := by decide +kernel
theorem dX6_leastGates_58 : decode cX6_leastGates 58 = .ok (.iload 5, 2) := by decide +kernel
theorem dX6_leastGates_60 : decode cX6_leastGates 60 = .ok (.if_icmp .gt 57, 3) := by decide +kernel
theorem dX6_leastGates_63 : decode cX6_leastGates 63 = .ok (.iload 4, 2) := by decide +kernel
theorem dX6_leastGates_65 : decode cX6_leastGates 65 = .ok (.ldc 133, 2) := by decide +kernel
theorem dX6_leastGates_67 : decode cX6_leastGates 67 = .ok (.if_icmp .eq 16, 3) := by decide +kernel
theorem dX6_leastGates_70 : decode cX6_leastGates 70 = .ok (.iload 6, 2) := by decide +kernel
theorem dX6_leastGates_72 : decode cX6_leastGates 72 = .ok (.invokestatic 227, 3) := by decide +kernel
theorem dX6_leastGates_75 : decode cX6_leastGates 75 = .ok (.iload 4, 2) := by decide +kernel
theorem dX6_leastGates_77 : decode cX6_leastGates 77 = .ok (.invokestatic 227, 3) := by decide +kernel
theorem dX6_leastGates_80 : decode cX6_leastGates 80 = .ok (.if_icmp .ge 7, 3) := by decide +kernel
theorem dX6_leastGates_83 : decode cX6_leastGates 83 = .ok (.iconst 1, 1) := by decide +kernel
theorem dX6_leastGates_84 : decode cX6_leastGates 84 = .ok (.goto 4, 3) := by decide +kernel
theorem dX6_leastGates_87 : decode cX6_leastGates 87 = .ok (.iconst 0, 1) := by decide +kernel
theorem dX6_leastGates_88 : decode cX6_leastGates 88 = .ok (.istore 7, 2) := by decide +kernel
theorem dX6_leastGates_90 : decode cX6_leastGates 90 = .ok (.iload 7, 2) := by decide +kernel
theorem dX6_leastGates_92 : decode cX6_leastGates 92 = .ok (.ifCond .eq 19, 3) := by decide +kernel
theorem dX6_leastGates_95 : decode cX6_leastGates 95 = .ok (.aload_n 0, 1) := by decide +kernel
theorem dX6_leastGates_96 : decode cX6_leastGates 96 = .ok (.iload_n 1, 1) := by decide +kernel
theorem dX6_leastGates_97 : decode cX6_leastGates 97 = .ok (.iload 6, 2) := by decide +kernel
theorem dX6_leastGates_99 : decode cX6_leastGates 99 = .ok (.iload_n 2, 1) := by decide +kernel
theorem dX6_leastGates_100 : decode cX6_leastGates 100 = .ok (.iload_n 3, 1) := by decide +kernel
theorem dX6_leastGates_101 : decode cX6_leastGates 101 = .ok (.invokevirtual 232, 3) := by decide +kernel
theorem dX6_leastGates_104 : decode cX6_leastGates 104 = .ok (.ifCond .eq 7, 3) := by decide +kernel
theorem dX6_leastGates_107 : decode cX6_leastGates 107 = .ok (.iload 6, 2) := by decide +kernel
theorem dX6_leastGates_109 : decode cX6_leastGates 109 = .ok (.istore 4, 2) := by decide +kernel
theorem dX6_leastGates_111 : decode cX6_leastGates 111 = .ok (.iinc 6 2, 3) := by decide +kernel
theorem dX6_leastGates_114 : decode cX6_leastGates 114 = .ok (.goto (-58), 3) := by decide +kernel
theorem dX6_leastGates_117 : decode cX6_leastGates 117 = .ok (.iload 4, 2) := by decide +kernel
theorem dX6_leastGates_119 : decode cX6_leastGates 119 = .ok (.ireturn, 1) := by decide +kernel
theorem dX6_fewestBuckets_0 : decode cX6_fewestBuckets 0 = .ok (.aload_n 0, 1) := by decide +kernel
theorem dX6_fewestBuckets_1 : decode cX6_fewestBuckets 1 = .ok (.getfield 12, 3) := by decide +kernel
theorem dX6_fewestBuckets_4 : decode cX6_fewestBuckets 4 = .ok (.getfield 61, 3) := by decide +kernel
theorem dX6_fewestBuckets_7 : decode cX6_fewestBuckets 7 = .ok (.iload_n 1, 1) := by decide +kernel
theorem dX6_fewestBuckets_8 : decode cX6_fewestBuckets 8 = .ok (.invokevirtual 100, 3) := by decide +kernel
theorem dX6_fewestBuckets_11 : decode cX6_fewestBuckets 11 = .ok (.ifCond .ne 6, 3) := by decide +kernel
theorem dX6_fewestBuckets_14 : decode cX6_fewestBuckets 14 = .ok (.ldc 47, 2) := by decide +kernel
theorem dX6_fewestBuckets_16 : decode cX6_fewestBuckets 16 = .ok (.ireturn, 1) := by decide +kernel
theorem dX6_fewestBuckets_17 : decode cX6_fewestBuckets 17 = .ok (.iconst 0, 1) := by decide +kernel
theorem dX6_fewestBuckets_18 : decode cX6_fewestBuckets 18 = .ok (.istore_n 2, 1) := by decide +kernel
theorem dX6_fewestBuckets_19 : decode cX6_fewestBuckets 19 = .ok (.iload_n 2, 1) := by decide +kernel
theorem dX6_fewestBuckets_20 : decode cX6_fewestBuckets 20 = .ok (.sipush 200, 3) := by decide +kernel
theorem dX6_fewestBuckets_23 : decode cX6_fewestBuckets 23 = .ok (.if_icmp .gt 39, 3) := by decide +kernel
theorem dX6_fewestBuckets_26 : decode cX6_fewestBuckets 26 = .ok (.aload_n 0, 1) := by decide +kernel
theorem dX6_fewestBuckets_27 : decode cX6_fewestBuckets 27 = .ok (.getfield 16, 3) := by decide +kernel
theorem dX6_fewestBuckets_30 : decode cX6_fewestBuckets 30 = .ok (.aload_n 0, 1) := by decide +kernel
theorem dX6_fewestBuckets_31 : decode cX6_fewestBuckets 31 = .ok (.getfield 12, 3) := by decide +kernel
theorem dX6_fewestBuckets_34 : decode cX6_fewestBuckets 34 = .ok (.invokevirtual 212, 3) := by decide +kernel
theorem dX6_fewestBuckets_37 : decode cX6_fewestBuckets 37 = .ok (.aload_n 0, 1) := by decide +kernel
theorem dX6_fewestBuckets_38 : decode cX6_fewestBuckets 38 = .ok (.getfield 16, 3) := by decide +kernel
theorem dX6_fewestBuckets_41 : decode cX6_fewestBuckets 41 = .ok (.iload_n 2, 1) := by decide +kernel
theorem dX6_fewestBuckets_42 : decode cX6_fewestBuckets 42 = .ok (.invokevirtual 127, 3) := by decide +kernel
theorem dX6_fewestBuckets_45 : decode cX6_fewestBuckets 45 = .ok (.pop, 1) := by decide +kernel
theorem dX6_fewestBuckets_46 : decode cX6_fewestBuckets 46 = .ok (.aload_n 0, 1) := by decide +kernel
theorem dX6_fewestBuckets_47 : decode cX6_fewestBuckets 47 = .ok (.iload_n 1, 1) := by decide +kernel
theorem dX6_fewestBuckets_48 : decode cX6_fewestBuckets 48 = .ok (.invokevirtual 218, 3) := by decide +kernel
theorem dX6_fewestBuckets_51 : decode cX6_fewestBuckets 51 = .ok (.ifCond .le 5, 3) := by decide +kernel
theorem dX6_fewestBuckets_54 : decode cX6_fewestBuckets 54 = .ok (.iload_n 2, 1) := by decide +kernel
theorem dX6_fewestBuckets_55 : decode cX6_fewestBuckets 55 = .ok (.ireturn, 1) := by decide +kernel
theorem dX6_fewestBuckets_56 : decode cX6_fewestBuckets 56 = .ok (.iinc 2 1, 3) := by decide +kernel
theorem dX6_fewestBuckets_59 : decode cX6_fewestBuckets 59 = .ok (.goto (-40), 3) := by decide +kernel
theorem dX6_fewestBuckets_62 : decode cX6_fewestBuckets 62 = .ok (.ldc 133, 2) := by decide +kernel
theorem dX6_fewestBuckets_64 : decode cX6_fewestBuckets 64 = .ok (.ireturn, 1) := by decide +kernel
theorem dX6_hoursFor_0 : decode cX6_hoursFor 0 = .ok (.iload_n 1, 1) := by decide +kernel
theorem dX6_hoursFor_1 : decode cX6_hoursFor 1 = .ok (.iconst 0, 1) := by decide +kernel
theorem dX6_hoursFor_2 : decode cX6_hoursFor 2 = .ok (.sipush 999, 3) := by decide +kernel
theorem dX6_hoursFor_5 : decode cX6_hoursFor 5 = .ok (.invokestatic 43, 3) := by decide +kernel
theorem dX6_hoursFor_8 : decode cX6_hoursFor 8 = .ok (.ifCond .eq 6, 3) := by decide +kernel
theorem dX6_hoursFor_11 : decode cX6_hoursFor 11 = .ok (.ldc 47, 2) := by decide +kernel
theorem dX6_hoursFor_13 : decode cX6_hoursFor 13 = .ok (.ireturn, 1) := by decide +kernel
theorem dX6_hoursFor_14 : decode cX6_hoursFor 14 = .ok (.aload_n 0, 1) := by decide +kernel
theorem dX6_hoursFor_15 : decode cX6_hoursFor 15 = .ok (.getfield 16, 3) := by decide +kernel
theorem dX6_hoursFor_18 : decode cX6_hoursFor 18 = .ok (.aload_n 0, 1) := by decide +kernel
theorem dX6_hoursFor_19 : decode cX6_hoursFor 19 = .ok (.getfield 12, 3) := by decide +kernel
theorem dX6_hoursFor_22 : decode cX6_hoursFor 22 = .ok (.invokevirtual 212, 3) := by decide +kernel
theorem dX6_hoursFor_25 : decode cX6_hoursFor 25 = .ok (.iconst 0, 1) := by decide +kernel
theorem dX6_hoursFor_26 : decode cX6_hoursFor 26 = .ok (.istore_n 2, 1) := by decide +kernel
theorem dX6_hoursFor_27 : decode cX6_hoursFor 27 = .ok (.iload_n 2, 1) := by decide +kernel
theorem dX6_hoursFor_28 : decode cX6_hoursFor 28 = .ok (.bipush 100, 2) := by decide +kernel
theorem dX6_hoursFor_30 : decode cX6_hoursFor 30 = .ok (.if_icmp .gt 34, 3) := by decide +kernel
theorem dX6_hoursFor_33 : decode cX6_hoursFor 33 = .ok (.aload_n 0, 1) := by decide +kernel
theorem dX6_hoursFor_34 : decode cX6_hoursFor 34 = .ok (.getfield 16, 3) := by decide +kernel
theorem dX6_hoursFor_37 : decode cX6_hoursFor 37 = .ok (.getfield 61, 3) := by decide +kernel
theorem dX6_hoursFor_40 : decode cX6_hoursFor 40 = .ok (.invokevirtual 236, 3) := by decide +kernel
theorem dX6_hoursFor_43 : decode cX6_hoursFor 43 = .ok (.ifCond .ne 5, 3) := by decide +kernel
theorem dX6_hoursFor_46 : decode cX6_hoursFor 46 = .ok (.iload_n 2, 1) := by decide +kernel
theorem dX6_hoursFor_47 : decode cX6_hoursFor 47 = .ok (.ireturn, 1) := by decide +kernel
theorem dX6_hoursFor_48 : decode cX6_hoursFor 48 = .ok (.aload_n 0, 1) := by decide +kernel
theorem dX6_hoursFor_49 : decode cX6_hoursFor 49 = .ok (.getfield 16, 3) := by decide +kernel
theorem dX6_hoursFor_52 : decode cX6_hoursFor 52 = .ok (.iconst 1, 1) := by decide +kernel
theorem dX6_hoursFor_53 : decode cX6_hoursFor 53 = .ok (.iload_n 1, 1) := by decide +kernel
theorem dX6_hoursFor_54 : decode cX6_hoursFor 54 = .ok (.invokevirtual 130, 3) := by decide +kernel
theorem dX6_hoursFor_57 : decode cX6_hoursFor 57 = .ok (.pop, 1) := by decide +kernel
theorem dX6_hoursFor_58 : decode cX6_hoursFor 58 = .ok (.iinc 2 1, 3) := by decide +kernel
theorem dX6_hoursFor_61 : decode cX6_hoursFor 61 = .ok (.goto (-34), 3) := by decide +kernel
theorem dX6_hoursFor_64 : decode cX6_hoursFor 64 = .ok (.ldc 133, 2) := by decide +kernel
theorem dX6_hoursFor_66 : decode cX6_hoursFor 66 = .ok (.ireturn, 1) := by decide +kernel
theorem dX6_rightAt_0 : decode cX6_rightAt 0 = .ok (.iload_n 1, 1) := by decide +kernel
theorem dX6_rightAt_1 : decode cX6_rightAt 1 = .ok (.ifCond .ge 6, 3) := by decide +kernel
theorem dX6_rightAt_4 : decode cX6_rightAt 4 = .ok (.ldc 47, 2) := by decide +kernel
theorem dX6_rightAt_6 : decode cX6_rightAt 6 = .ok (.ireturn, 1) := by decide +kernel
theorem dX6_rightAt_7 : decode cX6_rightAt 7 = .ok (.iconst 0, 1) := by decide +kernel
theorem dX6_rightAt_8 : decode cX6_rightAt 8 = .ok (.istore_n 2, 1) := by decide +kernel
theorem dX6_rightAt_9 : decode cX6_rightAt 9 = .ok (.iconst 0, 1) := by decide +kernel
theorem dX6_rightAt_10 : decode cX6_rightAt 10 = .ok (.istore_n 3, 1) := by decide +kernel
theorem dX6_rightAt_11 : decode cX6_rightAt 11 = .ok (.iload_n 3, 1) := by decide +kernel
theorem dX6_rightAt_12 : decode cX6_rightAt 12 = .ok (.aload_n 0, 1) := by decide +kernel
theorem dX6_rightAt_13 : decode cX6_rightAt 13 = .ok (.getfield 12, 3) := by decide +kernel
theorem dX6_rightAt_16 : decode cX6_rightAt 16 = .ok (.getfield 61, 3) := by decide +kernel
theorem dX6_rightAt_19 : decode cX6_rightAt 19 = .ok (.getfield 65, 3) := by decide +kernel
theorem dX6_rightAt_22 : decode cX6_rightAt 22 = .ok (.if_icmp .ge 49, 3) := by decide +kernel
theorem dX6_rightAt_25 : decode cX6_rightAt 25 = .ok (.aload_n 0, 1) := by decide +kernel
theorem dX6_rightAt_26 : decode cX6_rightAt 26 = .ok (.getfield 12, 3) := by decide +kernel
theorem dX6_rightAt_29 : decode cX6_rightAt 29 = .ok (.getfield 61, 3) := by decide +kernel
theorem dX6_rightAt_32 : decode cX6_rightAt 32 = .ok (.getfield 239, 3) := by decide +kernel
theorem dX6_rightAt_35 : decode cX6_rightAt 35 = .ok (.iload_n 3, 1) := by decide +kernel
theorem dX6_rightAt_36 : decode cX6_rightAt 36 = .ok (.iaload, 1) := by decide +kernel
theorem dX6_rightAt_37 : decode cX6_rightAt 37 = .ok (.istore 4, 2) := by decide +kernel
theorem dX6_rightAt_39 : decode cX6_rightAt 39 = .ok (.aload_n 0, 1) := by decide +kernel
theorem dX6_rightAt_40 : decode cX6_rightAt 40 = .ok (.getfield 12, 3) := by decide +kernel
theorem dX6_rightAt_43 : decode cX6_rightAt 43 = .ok (.getfield 61, 3) := by decide +kernel
theorem dX6_rightAt_46 : decode cX6_rightAt 46 = .ok (.iload 4, 2) := by decide +kernel
theorem dX6_rightAt_48 : decode cX6_rightAt 48 = .ok (.invokevirtual 186, 3) := by decide +kernel
theorem dX6_rightAt_51 : decode cX6_rightAt 51 = .ok (.ifCond .eq 14, 3) := by decide +kernel
theorem dX6_rightAt_54 : decode cX6_rightAt 54 = .ok (.iload_n 2, 1) := by decide +kernel
theorem dX6_rightAt_55 : decode cX6_rightAt 55 = .ok (.iload_n 1, 1) := by decide +kernel
theorem dX6_rightAt_56 : decode cX6_rightAt 56 = .ok (.if_icmp .ne 6, 3) := by decide +kernel
theorem dX6_rightAt_59 : decode cX6_rightAt 59 = .ok (.iload 4, 2) := by decide +kernel
theorem dX6_rightAt_61 : decode cX6_rightAt 61 = .ok (.ireturn, 1) := by decide +kernel
theorem dX6_rightAt_62 : decode cX6_rightAt 62 = .ok (.iinc 2 1, 3) := by decide +kernel
theorem dX6_rightAt_65 : decode cX6_rightAt 65 = .ok (.iinc 3 1, 3) := by decide +kernel
theorem dX6_rightAt_68 : decode cX6_rightAt 68 = .ok (.goto (-57), 3) := by decide +kernel
theorem dX6_rightAt_71 : decode cX6_rightAt 71 = .ok (.ldc 133, 2) := by decide +kernel
theorem dX6_rightAt_73 : decode cX6_rightAt 73 = .ok (.ireturn, 1) := by decide +kernel
theorem dX6_count_0 : decode cX6_count 0 = .ok (.iload_n 1, 1) := by decide +kernel
theorem dX6_count_1 : decode cX6_count 1 = .ok (.tableswitch 255 0 15 #[79, 90, 101, 115, 126, 137, 148, 156, 164, 172, 180, 188, 199, 228, 239, 247], 79) := by decide +kernel
theorem dX6_count_80 : decode cX6_count 80 = .ok (.aload_n 0, 1) := by decide +kernel
theorem dX6_count_81 : decode cX6_count 81 = .ok (.getfield 12, 3) := by decide +kernel
theorem dX6_count_84 : decode cX6_count 84 = .ok (.getfield 33, 3) := by decide +kernel
theorem dX6_count_87 : decode cX6_count 87 = .ok (.getfield 48, 3) := by decide +kernel
theorem dX6_count_90 : decode cX6_count 90 = .ok (.ireturn, 1) := by decide +kernel
theorem dX6_count_91 : decode cX6_count 91 = .ok (.aload_n 0, 1) := by decide +kernel
theorem dX6_count_92 : decode cX6_count 92 = .ok (.getfield 12, 3) := by decide +kernel
theorem dX6_count_95 : decode cX6_count 95 = .ok (.getfield 61, 3) := by decide +kernel
theorem dX6_count_98 : decode cX6_count 98 = .ok (.getfield 65, 3) := by decide +kernel
theorem dX6_count_101 : decode cX6_count 101 = .ok (.ireturn, 1) := by decide +kernel
theorem dX6_count_102 : decode cX6_count 102 = .ok (.aload_n 0, 1) := by decide +kernel
theorem dX6_count_103 : decode cX6_count 103 = .ok (.getfield 12, 3) := by decide +kernel
theorem dX6_count_106 : decode cX6_count 106 = .ok (.getfield 61, 3) := by decide +kernel
theorem dX6_count_109 : decode cX6_count 109 = .ok (.invokevirtual 236, 3) := by decide +kernel
theorem dX6_count_112 : decode cX6_count 112 = .ok (.invokestatic 227, 3) := by decide +kernel
theorem dX6_count_115 : decode cX6_count 115 = .ok (.ireturn, 1) := by decide +kernel
theorem dX6_count_116 : decode cX6_count 116 = .ok (.aload_n 0, 1) := by decide +kernel
theorem dX6_count_117 : decode cX6_count 117 = .ok (.getfield 12, 3) := by decide +kernel
theorem dX6_count_120 : decode cX6_count 120 = .ok (.getfield 61, 3) := by decide +kernel
theorem dX6_count_123 : decode cX6_count 123 = .ok (.getfield 242, 3) := by decide +kernel
theorem dX6_count_126 : decode cX6_count 126 = .ok (.ireturn, 1) := by decide +kernel
theorem dX6_count_127 : decode cX6_count 127 = .ok (.aload_n 0, 1) := by decide +kernel
theorem dX6_count_128 : decode cX6_count 128 = .ok (.getfield 12, 3) := by decide +kernel
theorem dX6_count_131 : decode cX6_count 131 = .ok (.getfield 33, 3) := by decide +kernel
theorem dX6_count_134 : decode cX6_count 134 = .ok (.getfield 215, 3) := by decide +kernel
theorem dX6_count_137 : decode cX6_count 137 = .ok (.ireturn, 1) := by decide +kernel
theorem dX6_count_138 : decode cX6_count 138 = .ok (.aload_n 0, 1) := by decide +kernel
theorem dX6_count_139 : decode cX6_count 139 = .ok (.getfield 12, 3) := by decide +kernel
theorem dX6_count_142 : decode cX6_count 142 = .ok (.getfield 33, 3) := by decide +kernel
theorem dX6_count_145 : decode cX6_count 145 = .ok (.invokevirtual 245, 3) := by decide +kernel
theorem dX6_count_148 : decode cX6_count 148 = .ok (.ireturn, 1) := by decide +kernel
theorem dX6_count_149 : decode cX6_count 149 = .ok (.aload_n 0, 1) := by decide +kernel
theorem dX6_count_150 : decode cX6_count 150 = .ok (.getfield 12, 3) := by decide +kernel
theorem dX6_count_153 : decode cX6_count 153 = .ok (.getfield 248, 3) := by decide +kernel
theorem dX6_count_156 : decode cX6_count 156 = .ok (.ireturn, 1) := by decide +kernel
theorem dX6_count_157 : decode cX6_count 157 = .ok (.aload_n 0, 1) := by decide +kernel
theorem dX6_count_158 : decode cX6_count 158 = .ok (.getfield 12, 3) := by decide +kernel
theorem dX6_count_161 : decode cX6_count 161 = .ok (.getfield 199, 3) := by decide +kernel
theorem dX6_count_164 : decode cX6_count 164 = .ok (.ireturn, 1) := by decide +kernel
theorem dX6_count_165 : decode cX6_count 165 = .ok (.aload_n 0, 1) := by decide +kernel
theorem dX6_count_166 : decode cX6_count 166 = .ok (.getfield 12, 3) := by decide +kernel
theorem dX6_count_169 : decode cX6_count 169 = .ok (.getfield 202, 3) := by decide +kernel
theorem dX6_count_172 : decode cX6_count 172 = .ok (.ireturn, 1) := by decide +kernel
theorem dX6_count_173 : decode cX6_count 173 = .ok (.aload_n 0, 1) := by decide +kernel
theorem dX6_count_174 : decode cX6_count 174 = .ok (.getfield 12, 3) := by decide +kernel
theorem dX6_count_177 : decode cX6_count 177 = .ok (.getfield 208, 3) := by decide +kernel
theorem dX6_count_180 : decode cX6_count 180 = .ok (.ireturn, 1) := by decide +kernel
theorem dX6_count_181 : decode cX6_count 181 = .ok (.aload_n 0, 1) := by decide +kernel
theorem dX6_count_182 : decode cX6_count 182 = .ok (.getfield 12, 3) := by decide +kernel
theorem dX6_count_185 : decode cX6_count 185 = .ok (.getfield 210, 3) := by decide +kernel
theorem dX6_count_188 : decode cX6_count 188 = .ok (.ireturn, 1) := by decide +kernel
theorem dX6_count_189 : decode cX6_count 189 = .ok (.aload_n 0, 1) := by decide +kernel
theorem dX6_count_190 : decode cX6_count 190 = .ok (.getfield 12, 3) := by decide +kernel
theorem dX6_count_193 : decode cX6_count 193 = .ok (.getfield 110, 3) := by decide +kernel
theorem dX6_count_196 : decode cX6_count 196 = .ok (.getfield 114, 3) := by decide +kernel
theorem dX6_count_199 : decode cX6_count 199 = .ok (.ireturn, 1) := by decide +kernel
theorem dX6_count_200 : decode cX6_count 200 = .ok (.aload_n 0, 1) := by decide +kernel
theorem dX6_count_201 : decode cX6_count 201 = .ok (.getfield 12, 3) := by decide +kernel
theorem dX6_count_204 : decode cX6_count 204 = .ok (.getfield 110, 3) := by decide +kernel
theorem dX6_count_207 : decode cX6_count 207 = .ok (.getfield 114, 3) := by decide +kernel
theorem dX6_count_210 : decode cX6_count 210 = .ok (.ifCond .ne 8, 3) := by decide +kernel
theorem dX6_count_213 : decode cX6_count 213 = .ok (.ldc 133, 2) := by decide +kernel
theorem dX6_count_215 : decode cX6_count 215 = .ok (.goto 13, 3) := by decide +kernel
theorem dX6_count_218 : decode cX6_count 218 = .ok (.aload_n 0, 1) := by decide +kernel
theorem dX6_count_219 : decode cX6_count 219 = .ok (.getfield 12, 3) := by decide +kernel
theorem dX6_count_222 : decode cX6_count 222 = .ok (.getfield 110, 3) := by decide +kernel
theorem dX6_count_225 : decode cX6_count 225 = .ok (.getfield 250, 3) := by decide +kernel
theorem dX6_count_228 : decode cX6_count 228 = .ok (.ireturn, 1) := by decide +kernel
theorem dX6_count_229 : decode cX6_count 229 = .ok (.aload_n 0, 1) := by decide +kernel
theorem dX6_count_230 : decode cX6_count 230 = .ok (.getfield 12, 3) := by decide +kernel
theorem dX6_count_233 : decode cX6_count 233 = .ok (.getfield 110, 3) := by decide +kernel
theorem dX6_count_236 : decode cX6_count 236 = .ok (.getfield 253, 3) := by decide +kernel
theorem dX6_count_239 : decode cX6_count 239 = .ok (.ireturn, 1) := by decide +kernel
theorem dX6_count_240 : decode cX6_count 240 = .ok (.aload_n 0, 1) := by decide +kernel
theorem dX6_count_241 : decode cX6_count 241 = .ok (.getfield 22, 3) := by decide +kernel
theorem dX6_count_244 : decode cX6_count 244 = .ok (.getfield 256, 3) := by decide +kernel
theorem dX6_count_247 : decode cX6_count 247 = .ok (.ireturn, 1) := by decide +kernel
theorem dX6_count_248 : decode cX6_count 248 = .ok (.aload_n 0, 1) := by decide +kernel
theorem dX6_count_249 : decode cX6_count 249 = .ok (.getfield 29, 3) := by decide +kernel
theorem dX6_count_252 : decode cX6_count 252 = .ok (.getfield 257, 3) := by decide +kernel
theorem dX6_count_255 : decode cX6_count 255 = .ok (.ireturn, 1) := by decide +kernel
theorem dX6_count_256 : decode cX6_count 256 = .ok (.ldc 47, 2) := by decide +kernel
theorem dX6_count_258 : decode cX6_count 258 = .ok (.ireturn, 1) := by decide +kernel
theorem dX6_undo_0 : decode cX6_undo 0 = .ok (.aload_n 0, 1) := by decide +kernel
theorem dX6_undo_1 : decode cX6_undo 1 = .ok (.getfield 22, 3) := by decide +kernel
theorem dX6_undo_4 : decode cX6_undo 4 = .ok (.getfield 256, 3) := by decide +kernel
theorem dX6_undo_7 : decode cX6_undo 7 = .ok (.ifCond .ne 6, 3) := by decide +kernel
theorem dX6_undo_10 : decode cX6_undo 10 = .ok (.ldc 83, 2) := by decide +kernel
theorem dX6_undo_12 : decode cX6_undo 12 = .ok (.ireturn, 1) := by decide +kernel
theorem dX6_undo_13 : decode cX6_undo 13 = .ok (.aload_n 0, 1) := by decide +kernel
theorem dX6_undo_14 : decode cX6_undo 14 = .ok (.getfield 22, 3) := by decide +kernel
theorem dX6_undo_17 : decode cX6_undo 17 = .ok (.aload_n 0, 1) := by decide +kernel
theorem dX6_undo_18 : decode cX6_undo 18 = .ok (.getfield 12, 3) := by decide +kernel
theorem dX6_undo_21 : decode cX6_undo 21 = .ok (.invokevirtual 260, 3) := by decide +kernel
theorem dX6_undo_24 : decode cX6_undo 24 = .ok (.ireturn, 1) := by decide +kernel
theorem dX6_type_0 : decode cX6_type 0 = .ok (.iload_n 1, 1) := by decide +kernel
theorem dX6_type_1 : decode cX6_type 1 = .ok (.bipush 32, 2) := by decide +kernel
theorem dX6_type_3 : decode cX6_type 3 = .ok (.bipush 126, 2) := by decide +kernel
theorem dX6_type_5 : decode cX6_type 5 = .ok (.invokestatic 43, 3) := by decide +kernel
theorem dX6_type_8 : decode cX6_type 8 = .ok (.ifCond .eq 6, 3) := by decide +kernel
theorem dX6_type_11 : decode cX6_type 11 = .ok (.ldc 47, 2) := by decide +kernel
theorem dX6_type_13 : decode cX6_type 13 = .ok (.ireturn, 1) := by decide +kernel
theorem dX6_type_14 : decode cX6_type 14 = .ok (.aload_n 0, 1) := by decide +kernel
theorem dX6_type_15 : decode cX6_type 15 = .ok (.getfield 29, 3) := by decide +kernel
theorem dX6_type_18 : decode cX6_type 18 = .ok (.getfield 257, 3) := by decide +kernel
theorem dX6_type_21 : decode cX6_type 21 = .ok (.bipush 60, 2) := by decide +kernel
theorem dX6_type_23 : decode cX6_type 23 = .ok (.if_icmp .lt 6, 3) := by decide +kernel
theorem dX6_type_26 : decode cX6_type 26 = .ok (.ldc 52, 2) := by decide +kernel
theorem dX6_type_28 : decode cX6_type 28 = .ok (.ireturn, 1) := by decide +kernel
theorem dX6_type_29 : decode cX6_type 29 = .ok (.aload_n 0, 1) := by decide +kernel
theorem dX6_type_30 : decode cX6_type 30 = .ok (.getfield 29, 3) := by decide +kernel
theorem dX6_type_33 : decode cX6_type 33 = .ok (.iload_n 1, 1) := by decide +kernel
theorem dX6_type_34 : decode cX6_type 34 = .ok (.invokevirtual 264, 3) := by decide +kernel
theorem dX6_type_37 : decode cX6_type 37 = .ok (.ireturn, 1) := by decide +kernel
theorem dX6_clearText_0 : decode cX6_clearText 0 = .ok (.aload_n 0, 1) := by decide +kernel
theorem dX6_clearText_1 : decode cX6_clearText 1 = .ok (.getfield 29, 3) := by decide +kernel
theorem dX6_clearText_4 : decode cX6_clearText 4 = .ok (.getfield 257, 3) := by decide +kernel
theorem dX6_clearText_7 : decode cX6_clearText 7 = .ok (.istore_n 1, 1) := by decide +kernel
theorem dX6_clearText_8 : decode cX6_clearText 8 = .ok (.aload_n 0, 1) := by decide +kernel
theorem dX6_clearText_9 : decode cX6_clearText 9 = .ok (.getfield 29, 3) := by decide +kernel
theorem dX6_clearText_12 : decode cX6_clearText 12 = .ok (.iconst 0, 1) := by decide +kernel
theorem dX6_clearText_13 : decode cX6_clearText 13 = .ok (.putfield 257, 3) := by decide +kernel
theorem dX6_clearText_16 : decode cX6_clearText 16 = .ok (.iload_n 1, 1) := by decide +kernel
theorem dX6_clearText_17 : decode cX6_clearText 17 = .ok (.ireturn, 1) := by decide +kernel
theorem dX6_fault_0 : decode cX6_fault 0 = .ok (.iload_n 1, 1) := by decide +kernel
theorem dX6_fault_1 : decode cX6_fault 1 = .ok (.iconst 0, 1) := by decide +kernel
theorem dX6_fault_2 : decode cX6_fault 2 = .ok (.iconst 2, 1) := by decide +kernel
theorem dX6_fault_3 : decode cX6_fault 3 = .ok (.invokestatic 43, 3) := by decide +kernel
theorem dX6_fault_6 : decode cX6_fault 6 = .ok (.ifCond .eq 6, 3) := by decide +kernel
theorem dX6_fault_9 : decode cX6_fault 9 = .ok (.ldc 47, 2) := by decide +kernel
theorem dX6_fault_11 : decode cX6_fault 11 = .ok (.ireturn, 1) := by decide +kernel
theorem dX6_fault_12 : decode cX6_fault 12 = .ok (.aload_n 0, 1) := by decide +kernel
theorem dX6_fault_13 : decode cX6_fault 13 = .ok (.getfield 16, 3) := by decide +kernel
theorem dX6_fault_16 : decode cX6_fault 16 = .ok (.aload_n 0, 1) := by decide +kernel
theorem dX6_fault_17 : decode cX6_fault 17 = .ok (.getfield 12, 3) := by decide +kernel
theorem dX6_fault_20 : decode cX6_fault 20 = .ok (.invokevirtual 212, 3) := by decide +kernel
theorem dX6_fault_23 : decode cX6_fault 23 = .ok (.aload_n 0, 1) := by decide +kernel
theorem dX6_fault_24 : decode cX6_fault 24 = .ok (.getfield 29, 3) := by decide +kernel
theorem dX6_fault_27 : decode cX6_fault 27 = .ok (.aload_n 0, 1) := by decide +kernel
theorem dX6_fault_28 : decode cX6_fault 28 = .ok (.getfield 16, 3) := by decide +kernel
theorem dX6_fault_31 : decode cX6_fault 31 = .ok (.invokevirtual 267, 3) := by decide +kernel
theorem dX6_fault_34 : decode cX6_fault 34 = .ok (.pop, 1) := by decide +kernel
theorem dX6_fault_35 : decode cX6_fault 35 = .ok (.aload_n 0, 1) := by decide +kernel
theorem dX6_fault_36 : decode cX6_fault 36 = .ok (.getfield 29, 3) := by decide +kernel
theorem dX6_fault_39 : decode cX6_fault 39 = .ok (.getfield 270, 3) := by decide +kernel
theorem dX6_fault_42 : decode cX6_fault 42 = .ok (.ifCond .ne 6, 3) := by decide +kernel
theorem dX6_fault_45 : decode cX6_fault 45 = .ok (.ldc 133, 2) := by decide +kernel
theorem dX6_fault_47 : decode cX6_fault 47 = .ok (.ireturn, 1) := by decide +kernel
theorem dX6_fault_48 : decode cX6_fault 48 = .ok (.iload_n 1, 1) := by decide +kernel
theorem dX6_fault_49 : decode cX6_fault 49 = .ok (.lookupswitch 43 #[(0, 27), (1, 35)], 27) := by decide +kernel
theorem dX6_fault_76 : decode cX6_fault 76 = .ok (.aload_n 0, 1) := by decide +kernel
theorem dX6_fault_77 : decode cX6_fault 77 = .ok (.getfield 29, 3) := by decide +kernel
theorem dX6_fault_80 : decode cX6_fault 80 = .ok (.getfield 273, 3) := by decide +kernel
theorem dX6_fault_83 : decode cX6_fault 83 = .ok (.ireturn, 1) := by decide +kernel
theorem dX6_fault_84 : decode cX6_fault 84 = .ok (.aload_n 0, 1) := by decide +kernel
theorem dX6_fault_85 : decode cX6_fault 85 = .ok (.getfield 29, 3) := by decide +kernel
theorem dX6_fault_88 : decode cX6_fault 88 = .ok (.getfield 270, 3) := by decide +kernel
theorem dX6_fault_91 : decode cX6_fault 91 = .ok (.ireturn, 1) := by decide +kernel
theorem dX6_fault_92 : decode cX6_fault 92 = .ok (.aload_n 0, 1) := by decide +kernel
theorem dX6_fault_93 : decode cX6_fault 93 = .ok (.getfield 29, 3) := by decide +kernel
theorem dX6_fault_96 : decode cX6_fault 96 = .ok (.getfield 270, 3) := by decide +kernel
theorem dX6_fault_99 : decode cX6_fault 99 = .ok (.iconst 3, 1) := by decide +kernel
theorem dX6_fault_100 : decode cX6_fault 100 = .ok (.if_icmp .ne 8, 3) := by decide +kernel
theorem dX6_fault_103 : decode cX6_fault 103 = .ok (.ldc 133, 2) := by decide +kernel
theorem dX6_fault_105 : decode cX6_fault 105 = .ok (.goto 10, 3) := by decide +kernel
theorem dX6_fault_108 : decode cX6_fault 108 = .ok (.aload_n 0, 1) := by decide +kernel
theorem dX6_fault_109 : decode cX6_fault 109 = .ok (.getfield 29, 3) := by decide +kernel
theorem dX6_fault_112 : decode cX6_fault 112 = .ok (.getfield 276, 3) := by decide +kernel
theorem dX6_fault_115 : decode cX6_fault 115 = .ok (.ireturn, 1) := by decide +kernel
theorem dX6_play_0 : decode cX6_play 0 = .ok (.aload_n 0, 1) := by decide +kernel
theorem dX6_play_1 : decode cX6_play 1 = .ok (.getfield 16, 3) := by decide +kernel
theorem dX6_play_4 : decode cX6_play 4 = .ok (.aload_n 0, 1) := by decide +kernel
theorem dX6_play_5 : decode cX6_play 5 = .ok (.getfield 12, 3) := by decide +kernel
theorem dX6_play_8 : decode cX6_play 8 = .ok (.invokevirtual 212, 3) := by decide +kernel
theorem dX6_play_11 : decode cX6_play 11 = .ok (.aload_n 0, 1) := by decide +kernel
theorem dX6_play_12 : decode cX6_play 12 = .ok (.getfield 29, 3) := by decide +kernel
theorem dX6_play_15 : decode cX6_play 15 = .ok (.aload_n 0, 1) := by decide +kernel
theorem dX6_play_16 : decode cX6_play 16 = .ok (.getfield 16, 3) := by decide +kernel
theorem dX6_play_19 : decode cX6_play 19 = .ok (.invokevirtual 267, 3) := by decide +kernel
theorem dX6_play_22 : decode cX6_play 22 = .ok (.istore_n 1, 1) := by decide +kernel
theorem dX6_play_23 : decode cX6_play 23 = .ok (.aload_n 0, 1) := by decide +kernel
theorem dX6_play_24 : decode cX6_play 24 = .ok (.getfield 29, 3) := by decide +kernel
theorem dX6_play_27 : decode cX6_play 27 = .ok (.getfield 270, 3) := by decide +kernel
theorem dX6_play_30 : decode cX6_play 30 = .ok (.ifCond .eq 6, 3) := by decide +kernel
theorem dX6_play_33 : decode cX6_play 33 = .ok (.ldc 83, 2) := by decide +kernel
theorem dX6_play_35 : decode cX6_play 35 = .ok (.ireturn, 1) := by decide +kernel
theorem dX6_play_36 : decode cX6_play 36 = .ok (.aload_n 0, 1) := by decide +kernel
theorem dX6_play_37 : decode cX6_play 37 = .ok (.getfield 22, 3) := by decide +kernel
theorem dX6_play_40 : decode cX6_play 40 = .ok (.aload_n 0, 1) := by decide +kernel
theorem dX6_play_41 : decode cX6_play 41 = .ok (.getfield 12, 3) := by decide +kernel
theorem dX6_play_44 : decode cX6_play 44 = .ok (.invokevirtual 53, 3) := by decide +kernel
theorem dX6_play_47 : decode cX6_play 47 = .ok (.aload_n 0, 1) := by decide +kernel
theorem dX6_play_48 : decode cX6_play 48 = .ok (.getfield 12, 3) := by decide +kernel
theorem dX6_play_51 : decode cX6_play 51 = .ok (.aload_n 0, 1) := by decide +kernel
theorem dX6_play_52 : decode cX6_play 52 = .ok (.getfield 16, 3) := by decide +kernel
theorem dX6_play_55 : decode cX6_play 55 = .ok (.invokevirtual 212, 3) := by decide +kernel
theorem dX6_play_58 : decode cX6_play 58 = .ok (.iload_n 1, 1) := by decide +kernel
theorem dX6_play_59 : decode cX6_play 59 = .ok (.ireturn, 1) := by decide +kernel
theorem dX6_isOutside_0 : decode cX6_isOutside 0 = .ok (.iload_n 0, 1) := by decide +kernel
theorem dX6_isOutside_1 : decode cX6_isOutside 1 = .ok (.iload_n 1, 1) := by decide +kernel
theorem dX6_isOutside_2 : decode cX6_isOutside 2 = .ok (.if_icmp .lt 8, 3) := by decide +kernel
theorem dX6_isOutside_5 : decode cX6_isOutside 5 = .ok (.iload_n 0, 1) := by decide +kernel
theorem dX6_isOutside_6 : decode cX6_isOutside 6 = .ok (.iload_n 2, 1) := by decide +kernel
theorem dX6_isOutside_7 : decode cX6_isOutside 7 = .ok (.if_icmp .le 7, 3) := by decide +kernel
theorem dX6_isOutside_10 : decode cX6_isOutside 10 = .ok (.iconst 1, 1) := by decide +kernel
theorem dX6_isOutside_11 : decode cX6_isOutside 11 = .ok (.goto 4, 3) := by decide +kernel
theorem dX6_isOutside_14 : decode cX6_isOutside 14 = .ok (.iconst 0, 1) := by decide +kernel
theorem dX6_isOutside_15 : decode cX6_isOutside 15 = .ok (.ireturn, 1) := by decide +kernel
theorem dX6_asNumber_0 : decode cX6_asNumber 0 = .ok (.iload_n 0, 1) := by decide +kernel
theorem dX6_asNumber_1 : decode cX6_asNumber 1 = .ok (.ifCond .eq 7, 3) := by decide +kernel
theorem dX6_asNumber_4 : decode cX6_asNumber 4 = .ok (.iconst 1, 1) := by decide +kernel
theorem dX6_asNumber_5 : decode cX6_asNumber 5 = .ok (.goto 4, 3) := by decide +kernel
theorem dX6_asNumber_8 : decode cX6_asNumber 8 = .ok (.iconst 0, 1) := by decide +kernel
theorem dX6_asNumber_9 : decode cX6_asNumber 9 = .ok (.ireturn, 1) := by decide +kernel
theorem dX6_tendsKind_0 : decode cX6_tendsKind 0 = .ok (.iload_n 0, 1) := by decide +kernel
theorem dX6_tendsKind_1 : decode cX6_tendsKind 1 = .ok (.iconst 2, 1) := by decide +kernel
theorem dX6_tendsKind_2 : decode cX6_tendsKind 2 = .ok (.if_icmp .eq 8, 3) := by decide +kernel
theorem dX6_tendsKind_5 : decode cX6_tendsKind 5 = .ok (.iload_n 0, 1) := by decide +kernel
theorem dX6_tendsKind_6 : decode cX6_tendsKind 6 = .ok (.iload_n 1, 1) := by decide +kernel
theorem dX6_tendsKind_7 : decode cX6_tendsKind 7 = .ok (.if_icmp .ne 7, 3) := by decide +kernel
theorem dX6_tendsKind_10 : decode cX6_tendsKind 10 = .ok (.iconst 1, 1) := by decide +kernel
theorem dX6_tendsKind_11 : decode cX6_tendsKind 11 = .ok (.goto 4, 3) := by decide +kernel
theorem dX6_tendsKind_14 : decode cX6_tendsKind 14 = .ok (.iconst 0, 1) := by decide +kernel
theorem dX6_tendsKind_15 : decode cX6_tendsKind 15 = .ok (.ireturn, 1) := by decide +kernel
theorem dX6_gain_0 : decode cX6_gain 0 = .ok (.aload_n 0, 1) := by decide +kernel
theorem dX6_gain_1 : decode cX6_gain 1 = .ok (.getfield 16, 3) := by decide +kernel
theorem dX6_gain_4 : decode cX6_gain 4 = .ok (.getfield 61, 3) := by decide +kernel
theorem dX6_gain_7 : decode cX6_gain 7 = .ok (.getfield 174, 3) := by decide +kernel
theorem dX6_gain_10 : decode cX6_gain 10 = .ok (.iload_n 1, 1) := by decide +kernel
theorem dX6_gain_11 : decode cX6_gain 11 = .ok (.iaload, 1) := by decide +kernel
theorem dX6_gain_12 : decode cX6_gain 12 = .ok (.aload_n 0, 1) := by decide +kernel
theorem dX6_gain_13 : decode cX6_gain 13 = .ok (.getfield 12, 3) := by decide +kernel
theorem dX6_gain_16 : decode cX6_gain 16 = .ok (.getfield 61, 3) := by decide +kernel
theorem dX6_gain_19 : decode cX6_gain 19 = .ok (.getfield 174, 3) := by decide +kernel
theorem dX6_gain_22 : decode cX6_gain 22 = .ok (.iload_n 1, 1) := by decide +kernel
theorem dX6_gain_23 : decode cX6_gain 23 = .ok (.iaload, 1) := by decide +kernel
theorem dX6_gain_24 : decode cX6_gain 24 = .ok (.isub, 1) := by decide +kernel
theorem dX6_gain_25 : decode cX6_gain 25 = .ok (.ireturn, 1) := by decide +kernel
theorem dX6_wouldServe_0 : decode cX6_wouldServe 0 = .ok (.aload_n 0, 1) := by decide +kernel
theorem dX6_wouldServe_1 : decode cX6_wouldServe 1 = .ok (.getfield 16, 3) := by decide +kernel
theorem dX6_wouldServe_4 : decode cX6_wouldServe 4 = .ok (.aload_n 0, 1) := by decide +kernel
theorem dX6_wouldServe_5 : decode cX6_wouldServe 5 = .ok (.getfield 12, 3) := by decide +kernel
theorem dX6_wouldServe_8 : decode cX6_wouldServe 8 = .ok (.invokevirtual 212, 3) := by decide +kernel
theorem dX6_wouldServe_11 : decode cX6_wouldServe 11 = .ok (.aload_n 0, 1) := by decide +kernel
theorem dX6_wouldServe_12 : decode cX6_wouldServe 12 = .ok (.getfield 16, 3) := by decide +kernel
theorem dX6_wouldServe_15 : decode cX6_wouldServe 15 = .ok (.getfield 33, 3) := by decide +kernel
theorem dX6_wouldServe_18 : decode cX6_wouldServe 18 = .ok (.iload_n 2, 1) := by decide +kernel
theorem dX6_wouldServe_19 : decode cX6_wouldServe 19 = .ok (.putfield 215, 3) := by decide +kernel
theorem dX6_wouldServe_22 : decode cX6_wouldServe 22 = .ok (.iconst 0, 1) := by decide +kernel
theorem dX6_wouldServe_23 : decode cX6_wouldServe 23 = .ok (.istore 5, 2) := by decide +kernel
theorem dX6_wouldServe_25 : decode cX6_wouldServe 25 = .ok (.iload 5, 2) := by decide +kernel
theorem dX6_wouldServe_27 : decode cX6_wouldServe 27 = .ok (.iload 4, 2) := by decide +kernel
theorem dX6_wouldServe_29 : decode cX6_wouldServe 29 = .ok (.if_icmp .ge 33, 3) := by decide +kernel
theorem dX6_wouldServe_32 : decode cX6_wouldServe 32 = .ok (.aload_n 0, 1) := by decide +kernel
theorem dX6_wouldServe_33 : decode cX6_wouldServe 33 = .ok (.getfield 16, 3) := by decide +kernel
theorem dX6_wouldServe_36 : decode cX6_wouldServe 36 = .ok (.getfield 61, 3) := by decide +kernel
theorem dX6_wouldServe_39 : decode cX6_wouldServe 39 = .ok (.invokevirtual 236, 3) := by decide +kernel
theorem dX6_wouldServe_42 : decode cX6_wouldServe 42 = .ok (.iload_n 1, 1) := by decide +kernel
theorem dX6_wouldServe_43 : decode cX6_wouldServe 43 = .ok (.iand, 1) := by decide +kernel
theorem dX6_wouldServe_44 : decode cX6_wouldServe 44 = .ok (.ifCond .eq 18, 3) := by decide +kernel
theorem dX6_wouldServe_47 : decode cX6_wouldServe 47 = .ok (.aload_n 0, 1) := by decide +kernel
theorem dX6_wouldServe_48 : decode cX6_wouldServe 48 = .ok (.getfield 16, 3) := by decide +kernel
theorem dX6_wouldServe_51 : decode cX6_wouldServe 51 = .ok (.iload_n 3, 1) := by decide +kernel
theorem dX6_wouldServe_52 : decode cX6_wouldServe 52 = .ok (.invokevirtual 127, 3) := by decide +kernel
theorem dX6_wouldServe_55 : decode cX6_wouldServe 55 = .ok (.pop, 1) := by decide +kernel
theorem dX6_wouldServe_56 : decode cX6_wouldServe 56 = .ok (.iinc 5 1, 3) := by decide +kernel
theorem dX6_wouldServe_59 : decode cX6_wouldServe 59 = .ok (.goto (-34), 3) := by decide +kernel
theorem dX6_wouldServe_62 : decode cX6_wouldServe 62 = .ok (.aload_n 0, 1) := by decide +kernel
theorem dX6_wouldServe_63 : decode cX6_wouldServe 63 = .ok (.getfield 16, 3) := by decide +kernel
theorem dX6_wouldServe_66 : decode cX6_wouldServe 66 = .ok (.getfield 61, 3) := by decide +kernel
theorem dX6_wouldServe_69 : decode cX6_wouldServe 69 = .ok (.invokevirtual 236, 3) := by decide +kernel
theorem dX6_wouldServe_72 : decode cX6_wouldServe 72 = .ok (.iload_n 1, 1) := by decide +kernel
theorem dX6_wouldServe_73 : decode cX6_wouldServe 73 = .ok (.iand, 1) := by decide +kernel
theorem dX6_wouldServe_74 : decode cX6_wouldServe 74 = .ok (.ifCond .ne 7, 3) := by decide +kernel
theorem dX6_wouldServe_77 : decode cX6_wouldServe 77 = .ok (.iconst 1, 1) := by decide +kernel
theorem dX6_wouldServe_78 : decode cX6_wouldServe 78 = .ok (.goto 4, 3) := by decide +kernel
theorem dX6_wouldServe_81 : decode cX6_wouldServe 81 = .ok (.iconst 0, 1) := by decide +kernel
theorem dX6_wouldServe_82 : decode cX6_wouldServe 82 = .ok (.ireturn, 1) := by decide +kernel
theorem dX6_floatBits_0 : decode cX6_floatBits 0 = .ok (.lload_n 0, 1) := by decide +kernel
theorem dX6_floatBits_1 : decode cX6_floatBits 1 = .ok (.lconst 0, 1) := by decide +kernel
theorem dX6_floatBits_2 : decode cX6_floatBits 2 = .ok (.lcmp, 1) := by decide +kernel
theorem dX6_floatBits_3 : decode cX6_floatBits 3 = .ok (.ifCond .le 9, 3) := by decide +kernel
theorem dX6_floatBits_6 : decode cX6_floatBits 6 = .ok (.lload_n 2, 1) := by decide +kernel
theorem dX6_floatBits_7 : decode cX6_floatBits 7 = .ok (.lconst 0, 1) := by decide +kernel
theorem dX6_floatBits_8 : decode cX6_floatBits 8 = .ok (.lcmp, 1) := by decide +kernel
theorem dX6_floatBits_9 : decode cX6_floatBits 9 = .ok (.ifCond .gt 5, 3) := by decide +kernel
theorem dX6_floatBits_12 : decode cX6_floatBits 12 = .ok (.iconst 0, 1) := by decide +kernel
theorem dX6_floatBits_13 : decode cX6_floatBits 13 = .ok (.ireturn, 1) := by decide +kernel
theorem dX6_floatBits_14 : decode cX6_floatBits 14 = .ok (.bipush 23, 2) := by decide +kernel
theorem dX6_floatBits_16 : decode cX6_floatBits 16 = .ok (.istore 4, 2) := by decide +kernel
theorem dX6_floatBits_18 : decode cX6_floatBits 18 = .ok (.iload 4, 2) := by decide +kernel
theorem dX6_floatBits_20 : decode cX6_floatBits 20 = .ok (.bipush 46, 2) := by decide +kernel
theorem dX6_floatBits_22 : decode cX6_floatBits 22 = .ok (.if_icmp .ge 21, 3) := by decide +kernel
theorem dX6_floatBits_25 : decode cX6_floatBits 25 = .ok (.lload_n 0, 1) := by decide +kernel
theorem dX6_floatBits_26 : decode cX6_floatBits 26 = .ok (.iload 4, 2) := by decide +kernel
theorem dX6_floatBits_28 : decode cX6_floatBits 28 = .ok (.lshl, 1) := by decide +kernel
theorem dX6_floatBits_29 : decode cX6_floatBits 29 = .ok (.lload_n 2, 1) := by decide +kernel
theorem dX6_floatBits_30 : decode cX6_floatBits 30 = .ok (.bipush 23, 2) := by decide +kernel
theorem dX6_floatBits_32 : decode cX6_floatBits 32 = .ok (.lshl, 1) := by decide +kernel
theorem dX6_floatBits_33 : decode cX6_floatBits 33 = .ok (.lcmp, 1) := by decide +kernel
theorem dX6_floatBits_34 : decode cX6_floatBits 34 = .ok (.ifCond .ge 9, 3) := by decide +kernel
theorem dX6_floatBits_37 : decode cX6_floatBits 37 = .ok (.iinc 4 1, 3) := by decide +kernel
theorem dX6_floatBits_40 : decode cX6_floatBits 40 = .ok (.goto (-22), 3) := by decide +kernel
theorem dX6_floatBits_43 : decode cX6_floatBits 43 = .ok (.lload_n 0, 1) := by decide +kernel
theorem dX6_floatBits_44 : decode cX6_floatBits 44 = .ok (.iload 4, 2) := by decide +kernel
theorem dX6_floatBits_46 : decode cX6_floatBits 46 = .ok (.lshl, 1) := by decide +kernel
theorem dX6_floatBits_47 : decode cX6_floatBits 47 = .ok (.lload_n 2, 1) := by decide +kernel
theorem dX6_floatBits_48 : decode cX6_floatBits 48 = .ok (.ldiv, 1) := by decide +kernel
theorem dX6_floatBits_49 : decode cX6_floatBits 49 = .ok (.lstore 5, 2) := by decide +kernel
theorem dX6_floatBits_51 : decode cX6_floatBits 51 = .ok (.lload_n 0, 1) := by decide +kernel
theorem dX6_floatBits_52 : decode cX6_floatBits 52 = .ok (.iload 4, 2) := by decide +kernel
theorem dX6_floatBits_54 : decode cX6_floatBits 54 = .ok (.lshl, 1) := by decide +kernel
theorem dX6_floatBits_55 : decode cX6_floatBits 55 = .ok (.lload_n 2, 1) := by decide +kernel
theorem dX6_floatBits_56 : decode cX6_floatBits 56 = .ok (.lrem, 1) := by decide +kernel
theorem dX6_floatBits_57 : decode cX6_floatBits 57 = .ok (.lstore 7, 2) := by decide +kernel
theorem dX6_floatBits_59 : decode cX6_floatBits 59 = .ok (.ldc2_w 279, 3) := by decide +kernel
theorem dX6_floatBits_62 : decode cX6_floatBits 62 = .ok (.lload 7, 2) := by decide +kernel
theorem dX6_floatBits_64 : decode cX6_floatBits 64 = .ok (.lmul, 1) := by decide +kernel
theorem dX6_floatBits_65 : decode cX6_floatBits 65 = .ok (.lload_n 2, 1) := by decide +kernel
theorem dX6_floatBits_66 : decode cX6_floatBits 66 = .ok (.lcmp, 1) := by decide +kernel
theorem dX6_floatBits_67 : decode cX6_floatBits 67 = .ok (.ifCond .le 9, 3) := by decide +kernel
theorem dX6_floatBits_70 : decode cX6_floatBits 70 = .ok (.lload 5, 2) := by decide +kernel
theorem dX6_floatBits_72 : decode cX6_floatBits 72 = .ok (.lconst 1, 1) := by decide +kernel
theorem dX6_floatBits_73 : decode cX6_floatBits 73 = .ok (.ladd, 1) := by decide +kernel
theorem dX6_floatBits_74 : decode cX6_floatBits 74 = .ok (.lstore 5, 2) := by decide +kernel
theorem dX6_floatBits_76 : decode cX6_floatBits 76 = .ok (.sipush 150, 3) := by decide +kernel
theorem dX6_floatBits_79 : decode cX6_floatBits 79 = .ok (.iload 4, 2) := by decide +kernel
theorem dX6_floatBits_81 : decode cX6_floatBits 81 = .ok (.isub, 1) := by decide +kernel
theorem dX6_floatBits_82 : decode cX6_floatBits 82 = .ok (.istore 9, 2) := by decide +kernel
theorem dX6_floatBits_84 : decode cX6_floatBits 84 = .ok (.iload 9, 2) := by decide +kernel
theorem dX6_floatBits_86 : decode cX6_floatBits 86 = .ok (.bipush 23, 2) := by decide +kernel
theorem dX6_floatBits_88 : decode cX6_floatBits 88 = .ok (.ishl, 1) := by decide +kernel
theorem dX6_floatBits_89 : decode cX6_floatBits 89 = .ok (.lload 5, 2) := by decide +kernel
theorem dX6_floatBits_91 : decode cX6_floatBits 91 = .ok (.ldc2_w 281, 3) := by decide +kernel
theorem dX6_floatBits_94 : decode cX6_floatBits 94 = .ok (.lsub, 1) := by decide +kernel
theorem dX6_floatBits_95 : decode cX6_floatBits 95 = .ok (.l2i, 1) := by decide +kernel
theorem dX6_floatBits_96 : decode cX6_floatBits 96 = .ok (.iadd, 1) := by decide +kernel
theorem dX6_floatBits_97 : decode cX6_floatBits 97 = .ok (.ireturn, 1) := by decide +kernel
theorem dX7_init_0 : decode cX7_init 0 = .ok (.aload_n 0, 1) := by decide +kernel
theorem dX7_init_1 : decode cX7_init 1 = .ok (.invokespecial 1, 3) := by decide +kernel
theorem dX7_init_4 : decode cX7_init 4 = .ok (.aload_n 0, 1) := by decide +kernel
theorem dX7_init_5 : decode cX7_init 5 = .ok (.sipush 168, 3) := by decide +kernel
theorem dX7_init_8 : decode cX7_init 8 = .ok (.newarray .int, 2) := by decide +kernel
theorem dX7_init_10 : decode cX7_init 10 = .ok (.putfield 7, 3) := by decide +kernel
theorem dX7_init_13 : decode cX7_init 13 = .ok (.aload_n 0, 1) := by decide +kernel
theorem dX7_init_14 : decode cX7_init 14 = .ok (.sipush 672, 3) := by decide +kernel
theorem dX7_init_17 : decode cX7_init 17 = .ok (.newarray .int, 2) := by decide +kernel
theorem dX7_init_19 : decode cX7_init 19 = .ok (.putfield 13, 3) := by decide +kernel
theorem dX7_init_22 : decode cX7_init 22 = .ok (.aload_n 0, 1) := by decide +kernel
theorem dX7_init_23 : decode cX7_init 23 = .ok (.sipush 168, 3) := by decide +kernel
theorem dX7_init_26 : decode cX7_init 26 = .ok (.newarray .int, 2) := by decide +kernel
theorem dX7_init_28 : decode cX7_init 28 = .ok (.putfield 16, 3) := by decide +kernel
theorem dX7_init_31 : decode cX7_init 31 = .ok (.aload_n 0, 1) := by decide +kernel
theorem dX7_init_32 : decode cX7_init 32 = .ok (.sipush 168, 3) := by decide +kernel
theorem dX7_init_35 : decode cX7_init 35 = .ok (.newarray .int, 2) := by decide +kernel
theorem dX7_init_37 : decode cX7_init 37 = .ok (.putfield 19, 3) := by decide +kernel
theorem dX7_init_40 : decode cX7_init 40 = .ok (.aload_n 0, 1) := by decide +kernel
theorem dX7_init_41 : decode cX7_init 41 = .ok (.bipush 60, 2) := by decide +kernel
theorem dX7_init_43 : decode cX7_init 43 = .ok (.newarray .char, 2) := by decide +kernel
theorem dX7_init_45 : decode cX7_init 45 = .ok (.putfield 22, 3) := by decide +kernel
theorem dX7_init_48 : decode cX7_init 48 = .ok (.aload_n 0, 1) := by decide +kernel
theorem dX7_init_49 : decode cX7_init 49 = .ok (.iconst 2, 1) := by decide +kernel
theorem dX7_init_50 : decode cX7_init 50 = .ok (.newarray .int, 2) := by decide +kernel
theorem dX7_init_52 : decode cX7_init 52 = .ok (.putfield 26, 3) := by decide +kernel
theorem dX7_init_55 : decode cX7_init 55 = .ok (.aload_n 0, 1) := by decide +kernel
theorem dX7_init_56 : decode cX7_init 56 = .ok (.getfield 7, 3) := by decide +kernel
theorem dX7_init_59 : decode cX7_init 59 = .ok (.iconst 0, 1) := by decide +kernel
theorem dX7_init_60 : decode cX7_init 60 = .ok (.iconst 1, 1) := by decide +kernel
theorem dX7_init_61 : decode cX7_init 61 = .ok (.iastore, 1) := by decide +kernel
theorem dX7_init_62 : decode cX7_init 62 = .ok (.aload_n 0, 1) := by decide +kernel
theorem dX7_init_63 : decode cX7_init 63 = .ok (.getfield 7, 3) := by decide +kernel
theorem dX7_init_66 : decode cX7_init 66 = .ok (.bipush 12, 2) := by decide +kernel
theorem dX7_init_68 : decode cX7_init 68 = .ok (.sipush 200, 3) := by decide +kernel
theorem dX7_init_71 : decode cX7_init 71 = .ok (.iastore, 1) := by decide +kernel
theorem dX7_init_72 : decode cX7_init 72 = .ok (.aload_n 0, 1) := by decide +kernel
theorem dX7_init_73 : decode cX7_init 73 = .ok (.getfield 7, 3) := by decide +kernel
theorem dX7_init_76 : decode cX7_init 76 = .ok (.bipush 13, 2) := by decide +kernel
theorem dX7_init_78 : decode cX7_init 78 = .ok (.bipush 50, 2) := by decide +kernel
theorem dX7_init_80 : decode cX7_init 80 = .ok (.iastore, 1) := by decide +kernel
theorem dX7_init_81 : decode cX7_init 81 = .ok (.aload_n 0, 1) := by decide +kernel
theorem dX7_init_82 : decode cX7_init 82 = .ok (.getfield 7, 3) := by decide +kernel
theorem dX7_init_85 : decode cX7_init 85 = .ok (.bipush 15, 2) := by decide +kernel
theorem dX7_init_87 : decode cX7_init 87 = .ok (.iconst (-1), 1) := by decide +kernel
theorem dX7_init_88 : decode cX7_init 88 = .ok (.iastore, 1) := by decide +kernel
theorem dX7_init_89 : decode cX7_init 89 = .ok (.return_, 1) := by decide +kernel
theorem dX7_in_0 : decode cX7_in 0 = .ok (.iload_n 0, 1) := by decide +kernel
theorem dX7_in_1 : decode cX7_in 1 = .ok (.iload_n 1, 1) := by decide +kernel
theorem dX7_in_2 : decode cX7_in 2 = .ok (.if_icmp .lt 12, 3) := by decide +kernel
theorem dX7_in_5 : decode cX7_in 5 = .ok (.iload_n 0, 1) := by decide +kernel
theorem dX7_in_6 : decode cX7_in 6 = .ok (.iload_n 2, 1) := by decide +kernel
theorem dX7_in_7 : decode cX7_in 7 = .ok (.if_icmp .gt 7, 3) := by decide +kernel
theorem dX7_in_10 : decode cX7_in 10 = .ok (.iconst 1, 1) := by decide +kernel
theorem dX7_in_11 : decode cX7_in 11 = .ok (.goto 4, 3) := by decide +kernel
theorem dX7_in_14 : decode cX7_in 14 = .ok (.iconst 0, 1) := by decide +kernel
theorem dX7_in_15 : decode cX7_in 15 = .ok (.ireturn, 1) := by decide +kernel
theorem dX7_ca_0 : decode cX7_ca 0 = .ok (.aload_n 0, 1) := by decide +kernel
theorem dX7_ca_1 : decode cX7_ca 1 = .ok (.getfield 7, 3) := by decide +kernel
theorem dX7_ca_4 : decode cX7_ca 4 = .ok (.bipush 10, 2) := by decide +kernel
theorem dX7_ca_6 : decode cX7_ca 6 = .ok (.bipush 9, 2) := by decide +kernel
theorem dX7_ca_8 : decode cX7_ca 8 = .ok (.iload_n 1, 1) := by decide +kernel
theorem dX7_ca_9 : decode cX7_ca 9 = .ok (.imul, 1) := by decide +kernel
theorem dX7_ca_10 : decode cX7_ca 10 = .ok (.iadd, 1) := by decide +kernel
theorem dX7_ca_11 : decode cX7_ca 11 = .ok (.iload_n 2, 1) := by decide +kernel
theorem dX7_ca_12 : decode cX7_ca 12 = .ok (.iadd, 1) := by decide +kernel
theorem dX7_ca_13 : decode cX7_ca 13 = .ok (.iaload, 1) := by decide +kernel
theorem dX7_ca_14 : decode cX7_ca 14 = .ok (.ireturn, 1) := by decide +kernel
theorem dX7_fi_0 : decode cX7_fi 0 = .ok (.aload_n 0, 1) := by decide +kernel
theorem dX7_fi_1 : decode cX7_fi 1 = .ok (.getfield 7, 3) := by decide +kernel
theorem dX7_fi_4 : decode cX7_fi 4 = .ok (.bipush 82, 2) := by decide +kernel
theorem dX7_fi_6 : decode cX7_fi 6 = .ok (.bipush 7, 2) := by decide +kernel
theorem dX7_fi_8 : decode cX7_fi 8 = .ok (.iload_n 1, 1) := by decide +kernel
theorem dX7_fi_9 : decode cX7_fi 9 = .ok (.imul, 1) := by decide +kernel
theorem dX7_fi_10 : decode cX7_fi 10 = .ok (.iadd, 1) := by decide +kernel
theorem dX7_fi_11 : decode cX7_fi 11 = .ok (.iload_n 2, 1) := by decide +kernel
theorem dX7_fi_12 : decode cX7_fi 12 = .ok (.iadd, 1) := by decide +kernel
theorem dX7_fi_13 : decode cX7_fi 13 = .ok (.iaload, 1) := by decide +kernel
theorem dX7_fi_14 : decode cX7_fi 14 = .ok (.ireturn, 1) := by decide +kernel
theorem dX7_isCanal_0 : decode cX7_isCanal 0 = .ok (.iload_n 1, 1) := by decide +kernel
theorem dX7_isCanal_1 : decode cX7_isCanal 1 = .ok (.iconst 0, 1) := by decide +kernel
theorem dX7_isCanal_2 : decode cX7_isCanal 2 = .ok (.aload_n 0, 1) := by decide +kernel
theorem dX7_isCanal_3 : decode cX7_isCanal 3 = .ok (.getfield 7, 3) := by decide +kernel
theorem dX7_isCanal_6 : decode cX7_isCanal 6 = .ok (.iconst 0, 1) := by decide +kernel
theorem dX7_isCanal_7 : decode cX7_isCanal 7 = .ok (.iaload, 1) := by decide +kernel
theorem dX7_isCanal_8 : decode cX7_isCanal 8 = .ok (.iconst 1, 1) := by decide +kernel
theorem dX7_isCanal_9 : decode cX7_isCanal 9 = .ok (.isub, 1) := by decide +kernel
theorem dX7_isCanal_10 : decode cX7_isCanal 10 = .ok (.invokestatic 29, 3) := by decide +kernel
theorem dX7_isCanal_13 : decode cX7_isCanal 13 = .ok (.ireturn, 1) := by decide +kernel
theorem dX7_isGate_0 : decode cX7_isGate 0 = .ok (.iload_n 1, 1) := by decide +kernel
theorem dX7_isGate_1 : decode cX7_isGate 1 = .ok (.iconst 1, 1) := by decide +kernel
theorem dX7_isGate_2 : decode cX7_isGate 2 = .ok (.aload_n 0, 1) := by decide +kernel
theorem dX7_isGate_3 : decode cX7_isGate 3 = .ok (.getfield 7, 3) := by decide +kernel
theorem dX7_isGate_6 : decode cX7_isGate 6 = .ok (.iconst 0, 1) := by decide +kernel
theorem dX7_isGate_7 : decode cX7_isGate 7 = .ok (.iaload, 1) := by decide +kernel
theorem dX7_isGate_8 : decode cX7_isGate 8 = .ok (.iconst 1, 1) := by decide +kernel
theorem dX7_isGate_9 : decode cX7_isGate 9 = .ok (.isub, 1) := by decide +kernel
theorem dX7_isGate_10 : decode cX7_isGate 10 = .ok (.invokestatic 29, 3) := by decide +kernel
theorem dX7_isGate_13 : decode cX7_isGate 13 = .ok (.ireturn, 1) := by decide +kernel
theorem dX7_isField_0 : decode cX7_isField 0 = .ok (.iload_n 1, 1) := by decide +kernel
theorem dX7_isField_1 : decode cX7_isField 1 = .ok (.iconst 0, 1) := by decide +kernel
theorem dX7_isField_2 : decode cX7_isField 2 = .ok (.aload_n 0, 1) := by decide +kernel
theorem dX7_isField_3 : decode cX7_isField 3 = .ok (.getfield 7, 3) := by decide +kernel
theorem dX7_isField_6 : decode cX7_isField 6 = .ok (.iconst 1, 1) := by decide +kernel
theorem dX7_isField_7 : decode cX7_isField 7 = .ok (.iaload, 1) := by decide +kernel
theorem dX7_isField_8 : decode cX7_isField 8 = .ok (.iconst 1, 1) := by decide +kernel
theorem dX7_isField_9 : decode cX7_isField 9 = .ok (.isub, 1) := by decide +kernel
theorem dX7_isField_10 : decode cX7_isField 10 = .ok (.invokestatic 29, 3) := by decide +kernel
theorem dX7_isField_13 : decode cX7_isField 13 = .ok (.ireturn, 1) := by decide +kernel
theorem dX7_areGates_0 : decode cX7_areGates 0 = .ok (.iload_n 1, 1) := by decide +kernel
theorem dX7_areGates_1 : decode cX7_areGates 1 = .ok (.ifCond .lt 24, 3) := by decide +kernel
theorem dX7_areGates_4 : decode cX7_areGates 4 = .ok (.iload_n 1, 1) := by decide +kernel
theorem dX7_areGates_5 : decode cX7_areGates 5 = .ok (.iconst 1, 1) := by decide +kernel
theorem dX7_areGates_6 : decode cX7_areGates 6 = .ok (.aload_n 0, 1) := by decide +kernel
theorem dX7_areGates_7 : decode cX7_areGates 7 = .ok (.getfield 7, 3) := by decide +kernel
theorem dX7_areGates_10 : decode cX7_areGates 10 = .ok (.iconst 0, 1) := by decide +kernel
theorem dX7_areGates_11 : decode cX7_areGates 11 = .ok (.iaload, 1) := by decide +kernel
theorem dX7_areGates_12 : decode cX7_areGates 12 = .ok (.ishl, 1) := by decide +kernel
theorem dX7_areGates_13 : decode cX7_areGates 13 = .ok (.iconst 2, 1) := by decide +kernel
theorem dX7_areGates_14 : decode cX7_areGates 14 = .ok (.isub, 1) := by decide +kernel
theorem dX7_areGates_15 : decode cX7_areGates 15 = .ok (.iconst (-1), 1) := by decide +kernel
theorem dX7_areGates_16 : decode cX7_areGates 16 = .ok (.ixor, 1) := by decide +kernel
theorem dX7_areGates_17 : decode cX7_areGates 17 = .ok (.iand, 1) := by decide +kernel
theorem dX7_areGates_18 : decode cX7_areGates 18 = .ok (.ifCond .ne 7, 3) := by decide +kernel
theorem dX7_areGates_21 : decode cX7_areGates 21 = .ok (.iconst 1, 1) := by decide +kernel
theorem dX7_areGates_22 : decode cX7_areGates 22 = .ok (.goto 4, 3) := by decide +kernel
theorem dX7_areGates_25 : decode cX7_areGates 25 = .ok (.iconst 0, 1) := by decide +kernel
theorem dX7_areGates_26 : decode cX7_areGates 26 = .ok (.ireturn, 1) := by decide +kernel
theorem dX7_wants_0 : decode cX7_wants 0 = .ok (.aload_n 0, 1) := by decide +kernel
theorem dX7_wants_1 : decode cX7_wants 1 = .ok (.iload_n 1, 1) := by decide +kernel
theorem dX7_wants_2 : decode cX7_wants 2 = .ok (.iconst 4, 1) := by decide +kernel
theorem dX7_wants_3 : decode cX7_wants 3 = .ok (.invokevirtual 33, 3) := by decide +kernel
theorem dX7_wants_6 : decode cX7_wants 6 = .ok (.aload_n 0, 1) := by decide +kernel
theorem dX7_wants_7 : decode cX7_wants 7 = .ok (.iload_n 1, 1) := by decide +kernel
theorem dX7_wants_8 : decode cX7_wants 8 = .ok (.iconst 1, 1) := by decide +kernel
theorem dX7_wants_9 : decode cX7_wants 9 = .ok (.invokevirtual 33, 3) := by decide +kernel
theorem dX7_wants_12 : decode cX7_wants 12 = .ok (.if_icmp .ge 7, 3) := by decide +kernel
theorem dX7_wants_15 : decode cX7_wants 15 = .ok (.iconst 1, 1) := by decide +kernel
theorem dX7_wants_16 : decode cX7_wants 16 = .ok (.goto 4, 3) := by decide +kernel
theorem dX7_wants_19 : decode cX7_wants 19 = .ok (.iconst 0, 1) := by decide +kernel
theorem dX7_wants_20 : decode cX7_wants 20 = .ok (.ireturn, 1) := by decide +kernel
theorem dX7_keeps_0 : decode cX7_keeps 0 = .ok (.iconst 0, 1) := by decide +kernel
theorem dX7_keeps_1 : decode cX7_keeps 1 = .ok (.istore_n 1, 1) := by decide +kernel
theorem dX7_keeps_2 : decode cX7_keeps 2 = .ok (.iload_n 1, 1) := by decide +kernel
theorem dX7_keeps_3 : decode cX7_keeps 3 = .ok (.sipush 168, 3) := by decide +kernel
theorem dX7_keeps_6 : decode cX7_keeps 6 = .ok (.if_icmp .ge 21, 3) := by decide +kernel
theorem dX7_keeps_9 : decode cX7_keeps 9 = .ok (.aload_n 0, 1) := by decide +kernel
theorem dX7_keeps_10 : decode cX7_keeps 10 = .ok (.getfield 16, 3) := by decide +kernel
theorem dX7_keeps_13 : decode cX7_keeps 13 = .ok (.iload_n 1, 1) := by decide +kernel
theorem dX7_keeps_14 : decode cX7_keeps 14 = .ok (.aload_n 0, 1) := by decide +kernel
theorem dX7_keeps_15 : decode cX7_keeps 15 = .ok (.getfield 7, 3) := by decide +kernel
theorem dX7_keeps_18 : decode cX7_keeps 18 = .ok (.iload_n 1, 1) := by decide +kernel
theorem dX7_keeps_19 : decode cX7_keeps 19 = .ok (.iaload, 1) := by decide +kernel
theorem dX7_keeps_20 : decode cX7_keeps 20 = .ok (.iastore, 1) := by decide +kernel
theorem dX7_keeps_21 : decode cX7_keeps 21 = .ok (.iinc 1 1, 3) := by decide +kernel
theorem dX7_keeps_24 : decode cX7_keeps 24 = .ok (.goto (-22), 3) := by decide +kernel
theorem dX7_keeps_27 : decode cX7_keeps 27 = .ok (.return_, 1) := by decide +kernel
theorem dX7_acted_0 : decode cX7_acted 0 = .ok (.iload_n 1, 1) := by decide +kernel
theorem dX7_acted_1 : decode cX7_acted 1 = .ok (.ldc 37, 2) := by decide +kernel
theorem dX7_acted_3 : decode cX7_acted 3 = .ok (.if_icmp .le 98, 3) := by decide +kernel
theorem dX7_acted_6 : decode cX7_acted 6 = .ok (.aload_n 0, 1) := by decide +kernel
theorem dX7_acted_7 : decode cX7_acted 7 = .ok (.getfield 38, 3) := by decide +kernel
theorem dX7_acted_10 : decode cX7_acted 10 = .ok (.iconst 4, 1) := by decide +kernel
theorem dX7_acted_11 : decode cX7_acted 11 = .ok (.if_icmp .ne 44, 3) := by decide +kernel
theorem dX7_acted_14 : decode cX7_acted 14 = .ok (.iconst 0, 1) := by decide +kernel
theorem dX7_acted_15 : decode cX7_acted 15 = .ok (.istore_n 2, 1) := by decide +kernel
theorem dX7_acted_16 : decode cX7_acted 16 = .ok (.iload_n 2, 1) := by decide +kernel
theorem dX7_acted_17 : decode cX7_acted 17 = .ok (.sipush 504, 3) := by decide +kernel
theorem dX7_acted_20 : decode cX7_acted 20 = .ok (.if_icmp .ge 25, 3) := by decide +kernel
theorem dX7_acted_23 : decode cX7_acted 23 = .ok (.aload_n 0, 1) := by decide +kernel
theorem dX7_acted_24 : decode cX7_acted 24 = .ok (.getfield 13, 3) := by decide +kernel
theorem dX7_acted_27 : decode cX7_acted 27 = .ok (.iload_n 2, 1) := by decide +kernel
theorem dX7_acted_28 : decode cX7_acted 28 = .ok (.aload_n 0, 1) := by decide +kernel
theorem dX7_acted_29 : decode cX7_acted 29 = .ok (.getfield 13, 3) := by decide +kernel
theorem dX7_acted_32 : decode cX7_acted 32 = .ok (.iload_n 2, 1) := by decide +kernel
theorem dX7_acted_33 : decode cX7_acted 33 = .ok (.sipush 168, 3) := by decide +kernel
theorem dX7_acted_36 : decode cX7_acted 36 = .ok (.iadd, 1) := by decide +kernel
theorem dX7_acted_37 : decode cX7_acted 37 = .ok (.iaload, 1) := by decide +kernel
theorem dX7_acted_38 : decode cX7_acted 38 = .ok (.iastore, 1) := by decide +kernel
theorem dX7_acted_39 : decode cX7_acted 39 = .ok (.iinc 2 1, 3) := by decide +kernel
theorem dX7_acted_42 : decode cX7_acted 42 = .ok (.goto (-26), 3) := by decide +kernel
theorem dX7_acted_45 : decode cX7_acted 45 = .ok (.aload_n 0, 1) := by decide +kernel
theorem dX7_acted_46 : decode cX7_acted 46 = .ok (.dup, 1) := by decide +kernel
theorem dX7_acted_47 : decode cX7_acted 47 = .ok (.getfield 38, 3) := by decide +kernel
theorem dX7_acted_50 : decode cX7_acted 50 = .ok (.iconst 1, 1) := by decide +kernel
theorem dX7_acted_51 : decode cX7_acted 51 = .ok (.isub, 1) := by decide +kernel
theorem dX7_acted_52 : decode cX7_acted 52 = .ok (.putfield 38, 3) := by decide +kernel
theorem dX7_acted_55 : decode cX7_acted 55 = .ok (.iconst 0, 1) := by decide +kernel
theorem dX7_acted_56 : decode cX7_acted 56 = .ok (.istore_n 2, 1) := by decide +kernel
theorem dX7_acted_57 : decode cX7_acted 57 = .ok (.iload_n 2, 1) := by decide +kernel
theorem dX7_acted_58 : decode cX7_acted 58 = .ok (.sipush 168, 3) := by decide +kernel
theorem dX7_acted_61 : decode cX7_acted 61 = .ok (.if_icmp .ge 30, 3) := by decide +kernel
theorem dX7_acted_64 : decode cX7_acted 64 = .ok (.aload_n 0, 1) := by decide +kernel
theorem dX7_acted_65 : decode cX7_acted 65 = .ok (.getfield 13, 3) := by decide +kernel
theorem dX7_acted_68 : decode cX7_acted 68 = .ok (.sipush 168, 3) := by decide +kernel
theorem dX7_acted_71 : decode cX7_acted 71 = .ok (.aload_n 0, 1) := by decide +kernel
theorem dX7_acted_72 : decode cX7_acted 72 = .ok (.getfield 38, 3) := by decide +kernel
theorem dX7_acted_75 : decode cX7_acted 75 = .ok (.imul, 1) := by decide +kernel
theorem dX7_acted_76 : decode cX7_acted 76 = .ok (.iload_n 2, 1) := by decide +kernel
theorem dX7_acted_77 : decode cX7_acted 77 = .ok (.iadd, 1) := by decide +kernel
theorem dX7_acted_78 : decode cX7_acted 78 = .ok (.aload_n 0, 1) := by decide +kernel
theorem dX7_acted_79 : decode cX7_acted 79 = .ok (.getfield 16, 3) := by decide +kernel
theorem dX7_acted_82 : decode cX7_acted 82 = .ok (.iload_n 2, 1) := by decide +kernel
theorem dX7_acted_83 : decode cX7_acted 83 = .ok (.iaload, 1) := by decide +kernel
theorem dX7_acted_84 : decode cX7_acted 84 = .ok (.iastore, 1) := by decide +kernel
theorem dX7_acted_85 : decode cX7_acted 85 = .ok (.iinc 2 1, 3) := by decide +kernel
theorem dX7_acted_88 : decode cX7_acted 88 = .ok (.goto (-31), 3) := by decide +kernel
theorem dX7_acted_91 : decode cX7_acted 91 = .ok (.aload_n 0, 1) := by decide +kernel
theorem dX7_acted_92 : decode cX7_acted 92 = .ok (.dup, 1) := by decide +kernel
theorem dX7_acted_93 : decode cX7_acted 93 = .ok (.getfield 38, 3) := by decide +kernel
theorem dX7_acted_96 : decode cX7_acted 96 = .ok (.iconst 1, 1) := by decide +kernel
theorem dX7_acted_97 : decode cX7_acted 97 = .ok (.iadd, 1) := by decide +kernel
theorem dX7_acted_98 : decode cX7_acted 98 = .ok (.putfield 38, 3) := by decide +kernel
theorem dX7_acted_101 : decode cX7_acted 101 = .ok (.iload_n 1, 1) := by decide +kernel
theorem dX7_acted_102 : decode cX7_acted 102 = .ok (.ireturn, 1) := by decide +kernel
theorem dX7_puts_0 : decode cX7_puts 0 = .ok (.iconst 0, 1) := by decide +kernel
theorem dX7_puts_1 : decode cX7_puts 1 = .ok (.istore_n 1, 1) := by decide +kernel
theorem dX7_puts_2 : decode cX7_puts 2 = .ok (.iload_n 1, 1) := by decide +kernel
theorem dX7_puts_3 : decode cX7_puts 3 = .ok (.sipush 168, 3) := by decide +kernel
theorem dX7_puts_6 : decode cX7_puts 6 = .ok (.if_icmp .ge 21, 3) := by decide +kernel
theorem dX7_puts_9 : decode cX7_puts 9 = .ok (.aload_n 0, 1) := by decide +kernel
theorem dX7_puts_10 : decode cX7_puts 10 = .ok (.getfield 19, 3) := by decide +kernel
theorem dX7_puts_13 : decode cX7_puts 13 = .ok (.iload_n 1, 1) := by decide +kernel
theorem dX7_puts_14 : decode cX7_puts 14 = .ok (.aload_n 0, 1) := by decide +kernel
theorem dX7_puts_15 : decode cX7_puts 15 = .ok (.getfield 7, 3) := by decide +kernel
theorem dX7_puts_18 : decode cX7_puts 18 = .ok (.iload_n 1, 1) := by decide +kernel
theorem dX7_puts_19 : decode cX7_puts 19 = .ok (.iaload, 1) := by decide +kernel
theorem dX7_puts_20 : decode cX7_puts 20 = .ok (.iastore, 1) := by decide +kernel
theorem dX7_puts_21 : decode cX7_puts 21 = .ok (.iinc 1 1, 3) := by decide +kernel
theorem dX7_puts_24 : decode cX7_puts 24 = .ok (.goto (-22), 3) := by decide +kernel
theorem dX7_puts_27 : decode cX7_puts 27 = .ok (.return_, 1) := by decide +kernel
theorem dX7_restores_0 : decode cX7_restores 0 = .ok (.iconst 0, 1) := by decide +kernel
theorem dX7_restores_1 : decode cX7_restores 1 = .ok (.istore_n 1, 1) := by decide +kernel
theorem dX7_restores_2 : decode cX7_restores 2 = .ok (.iload_n 1, 1) := by decide +kernel
theorem dX7_restores_3 : decode cX7_restores 3 = .ok (.sipush 168, 3) := by decide +kernel
theorem dX7_restores_6 : decode cX7_restores 6 = .ok (.if_icmp .ge 21, 3) := by decide +kernel
theorem dX7_restores_9 : decode cX7_restores 9 = .ok (.aload_n 0, 1) := by decide +kernel
theorem dX7_restores_10 : decode cX7_restores 10 = .ok (.getfield 7, 3) := by decide +kernel
theorem dX7_restores_13 : decode cX7_restores 13 = .ok (.iload_n 1, 1) := by decide +kernel
theorem dX7_restores_14 : decode cX7_restores 14 = .ok (.aload_n 0, 1) := by decide +kernel
theorem dX7_restores_15 : decode cX7_restores 15 = .ok (.getfield 19, 3) := by decide +kernel
theorem dX7_restores_18 : decode cX7_restores 18 = .ok (.iload_n 1, 1) := by decide +kernel
theorem dX7_restores_19 : decode cX7_restores 19 = .ok (.iaload, 1) := by decide +kernel
theorem dX7_restores_20 : decode cX7_restores 20 = .ok (.iastore, 1) := by decide +kernel
theorem dX7_restores_21 : decode cX7_restores 21 = .ok (.iinc 1 1, 3) := by decide +kernel
theorem dX7_restores_24 : decode cX7_restores 24 = .ok (.goto (-22), 3) := by decide +kernel
theorem dX7_restores_27 : decode cX7_restores 27 = .ok (.return_, 1) := by decide +kernel
theorem dX7_canal_0 : decode cX7_canal 0 = .ok (.aload_n 0, 1) := by decide +kernel
theorem dX7_canal_1 : decode cX7_canal 1 = .ok (.iload_n 1, 1) := by decide +kernel
theorem dX7_canal_2 : decode cX7_canal 2 = .ok (.invokevirtual 42, 3) := by decide +kernel
theorem dX7_canal_5 : decode cX7_canal 5 = .ok (.ifCond .eq 35, 3) := by decide +kernel
theorem dX7_canal_8 : decode cX7_canal 8 = .ok (.iload_n 2, 1) := by decide +kernel
theorem dX7_canal_9 : decode cX7_canal 9 = .ok (.iconst 0, 1) := by decide +kernel
theorem dX7_canal_10 : decode cX7_canal 10 = .ok (.iconst 2, 1) := by decide +kernel
theorem dX7_canal_11 : decode cX7_canal 11 = .ok (.invokestatic 29, 3) := by decide +kernel
theorem dX7_canal_14 : decode cX7_canal 14 = .ok (.ifCond .eq 26, 3) := by decide +kernel
theorem dX7_canal_17 : decode cX7_canal 17 = .ok (.iload_n 3, 1) := by decide +kernel
theorem dX7_canal_18 : decode cX7_canal 18 = .ok (.iconst 1, 1) := by decide +kernel
theorem dX7_canal_19 : decode cX7_canal 19 = .ok (.sipush 500, 3) := by decide +kernel
theorem dX7_canal_22 : decode cX7_canal 22 = .ok (.invokestatic 29, 3) := by decide +kernel
theorem dX7_canal_25 : decode cX7_canal 25 = .ok (.ifCond .eq 15, 3) := by decide +kernel
theorem dX7_canal_28 : decode cX7_canal 28 = .ok (.iload 4, 2) := by decide +kernel
theorem dX7_canal_30 : decode cX7_canal 30 = .ok (.iconst 0, 1) := by decide +kernel
theorem dX7_canal_31 : decode cX7_canal 31 = .ok (.sipush 500, 3) := by decide +kernel
theorem dX7_canal_34 : decode cX7_canal 34 = .ok (.invokestatic 29, 3) := by decide +kernel
theorem dX7_canal_37 : decode cX7_canal 37 = .ok (.ifCond .ne 6, 3) := by decide +kernel
theorem dX7_canal_40 : decode cX7_canal 40 = .ok (.ldc 37, 2) := by decide +kernel
theorem dX7_canal_42 : decode cX7_canal 42 = .ok (.ireturn, 1) := by decide +kernel
theorem dX7_canal_43 : decode cX7_canal 43 = .ok (.aload_n 0, 1) := by decide +kernel
theorem dX7_canal_44 : decode cX7_canal 44 = .ok (.getfield 7, 3) := by decide +kernel
theorem dX7_canal_47 : decode cX7_canal 47 = .ok (.iconst 0, 1) := by decide +kernel
theorem dX7_canal_48 : decode cX7_canal 48 = .ok (.iaload, 1) := by decide +kernel
theorem dX7_canal_49 : decode cX7_canal 49 = .ok (.bipush 8, 2) := by decide +kernel
theorem dX7_canal_51 : decode cX7_canal 51 = .ok (.if_icmp .ne 6, 3) := by decide +kernel
theorem dX7_canal_54 : decode cX7_canal 54 = .ok (.ldc 46, 2) := by decide +kernel
theorem dX7_canal_56 : decode cX7_canal 56 = .ok (.ireturn, 1) := by decide +kernel
theorem dX7_canal_57 : decode cX7_canal 57 = .ok (.aload_n 0, 1) := by decide +kernel
theorem dX7_canal_58 : decode cX7_canal 58 = .ok (.invokevirtual 47, 3) := by decide +kernel
theorem dX7_canal_61 : decode cX7_canal 61 = .ok (.bipush 10, 2) := by decide +kernel
theorem dX7_canal_63 : decode cX7_canal 63 = .ok (.bipush 9, 2) := by decide +kernel
theorem dX7_canal_65 : decode cX7_canal 65 = .ok (.aload_n 0, 1) := by decide +kernel
theorem dX7_canal_66 : decode cX7_canal 66 = .ok (.getfield 7, 3) := by decide +kernel
theorem dX7_canal_69 : decode cX7_canal 69 = .ok (.iconst 0, 1) := by decide +kernel
theorem dX7_canal_70 : decode cX7_canal 70 = .ok (.iaload, 1) := by decide +kernel
theorem dX7_canal_71 : decode cX7_canal 71 = .ok (.imul, 1) := by decide +kernel
theorem dX7_canal_72 : decode cX7_canal 72 = .ok (.iadd, 1) := by decide +kernel
theorem dX7_canal_73 : decode cX7_canal 73 = .ok (.istore 5, 2) := by decide +kernel
theorem dX7_canal_75 : decode cX7_canal 75 = .ok (.iconst 0, 1) := by decide +kernel
theorem dX7_canal_76 : decode cX7_canal 76 = .ok (.istore 6, 2) := by decide +kernel
theorem dX7_canal_78 : decode cX7_canal 78 = .ok (.iload 6, 2) := by decide +kernel
theorem dX7_canal_80 : decode cX7_canal 80 = .ok (.bipush 9, 2) := by decide +kernel
theorem dX7_canal_82 : decode cX7_canal 82 = .ok (.if_icmp .ge 20, 3) := by decide +kernel
theorem dX7_canal_85 : decode cX7_canal 85 = .ok (.aload_n 0, 1) := by decide +kernel
theorem dX7_canal_86 : decode cX7_canal 86 = .ok (.getfield 7, 3) := by decide +kernel
theorem dX7_canal_89 : decode cX7_canal 89 = .ok (.iload 5, 2) := by decide +kernel
theorem dX7_canal_91 : decode cX7_canal 91 = .ok (.iload 6, 2) := by decide +kernel
theorem dX7_canal_93 : decode cX7_canal 93 = .ok (.iadd, 1) := by decide +kernel
theorem dX7_canal_94 : decode cX7_canal 94 = .ok (.iconst 0, 1) := by decide +kernel
theorem dX7_canal_95 : decode cX7_canal 95 = .ok (.iastore, 1) := by decide +kernel
theorem dX7_canal_96 : decode cX7_canal 96 = .ok (.iinc 6 1, 3) := by decide +kernel
theorem dX7_canal_99 : decode cX7_canal 99 = .ok (.goto (-21), 3) := by decide +kernel
theorem dX7_canal_102 : decode cX7_canal 102 = .ok (.aload_n 0, 1) := by decide +kernel
theorem dX7_canal_103 : decode cX7_canal 103 = .ok (.getfield 7, 3) := by decide +kernel
theorem dX7_canal_106 : decode cX7_canal 106 = .ok (.iload 5, 2) := by decide +kernel
theorem dX7_canal_108 : decode cX7_canal 108 = .ok (.iload_n 1, 1) := by decide +kernel
theorem dX7_canal_109 : decode cX7_canal 109 = .ok (.iastore, 1) := by decide +kernel
theorem dX7_canal_110 : decode cX7_canal 110 = .ok (.aload_n 0, 1) := by decide +kernel
theorem dX7_canal_111 : decode cX7_canal 111 = .ok (.getfield 7, 3) := by decide +kernel
theorem dX7_canal_114 : decode cX7_canal 114 = .ok (.iload 5, 2) := by decide +kernel
theorem dX7_canal_116 : decode cX7_canal 116 = .ok (.iconst 1, 1) := by decide +kernel
theorem dX7_canal_117 : decode cX7_canal 117 = .ok (.iadd, 1) := by decide +kernel
theorem dX7_canal_118 : decode cX7_canal 118 = .ok (.iload_n 2, 1) := by decide +kernel
theorem dX7_canal_119 : decode cX7_canal 119 = .ok (.iastore, 1) := by decide +kernel
theorem dX7_canal_120 : decode cX7_canal 120 = .ok (.aload_n 0, 1) := by decide +kernel
theorem dX7_canal_121 : decode cX7_canal 121 = .ok (.getfield 7, 3) := by decide +kernel
theorem dX7_canal_124 : decode cX7_canal 124 = .ok (.iload 5, 2) := by decide +kernel
theorem dX7_canal_126 : decode cX7_canal 126 = .ok (.iconst 2, 1) := by decide +kernel
theorem dX7_canal_127 : decode cX7_canal 127 = .ok (.iadd, 1) := by decide +kernel
theorem dX7_canal_128 : decode cX7_canal 128 = .ok (.iload_n 3, 1) := by decide +kernel
theorem dX7_canal_129 : decode cX7_canal 129 = .ok (.iastore, 1) := by decide +kernel
theorem dX7_canal_130 : decode cX7_canal 130 = .ok (.aload_n 0, 1) := by decide +kernel
theorem dX7_canal_131 : decode cX7_canal 131 = .ok (.getfield 7, 3) := by decide +kernel
theorem dX7_canal_134 : decode cX7_canal 134 = .ok (.iload 5, 2) := by decide +kernel
theorem dX7_canal_136 : decode cX7_canal 136 = .ok (.iconst 3, 1) := by decide +kernel
theorem dX7_canal_137 : decode cX7_canal 137 = .ok (.iadd, 1) := by decide +kernel
theorem dX7_canal_138 : decode cX7_canal 138 = .ok (.iload 4, 2) := by decide +kernel
theorem dX7_canal_140 : decode cX7_canal 140 = .ok (.iastore, 1) := by decide +kernel
theorem dX7_canal_141 : decode cX7_canal 141 = .ok (.aload_n 0, 1) := by decide +kernel
theorem dX7_canal_142 : decode cX7_canal 142 = .ok (.getfield 7, 3) := by decide +kernel
theorem dX7_canal_145 : decode cX7_canal 145 = .ok (.iload 5, 2) := by decide +kernel
theorem dX7_canal_147 : decode cX7_canal 147 = .ok (.iconst 5, 1) := by decide +kernel
theorem dX7_canal_148 : decode cX7_canal 148 = .ok (.iadd, 1) := by decide +kernel
theorem dX7_canal_149 : decode cX7_canal 149 = .ok (.iconst (-1), 1) := by decide +kernel
theorem dX7_canal_150 : decode cX7_canal 150 = .ok (.iastore, 1) := by decide +kernel
theorem dX7_canal_151 : decode cX7_canal 151 = .ok (.aload_n 0, 1) := by decide +kernel
theorem dX7_canal_152 : decode cX7_canal 152 = .ok (.getfield 7, 3) := by decide +kernel
theorem dX7_canal_155 : decode cX7_canal 155 = .ok (.iconst 0, 1) := by decide +kernel
theorem dX7_canal_156 : decode cX7_canal 156 = .ok (.dup2, 1) := by decide +kernel
theorem dX7_canal_157 : decode cX7_canal 157 = .ok (.iaload, 1) := by decide +kernel
theorem dX7_canal_158 : decode cX7_canal 158 = .ok (.iconst 1, 1) := by decide +kernel
theorem dX7_canal_159 : decode cX7_canal 159 = .ok (.iadd, 1) := by decide +kernel
theorem dX7_canal_160 : decode cX7_canal 160 = .ok (.iastore, 1) := by decide +kernel
theorem dX7_canal_161 : decode cX7_canal 161 = .ok (.aload_n 0, 1) := by decide +kernel
theorem dX7_canal_162 : decode cX7_canal 162 = .ok (.aload_n 0, 1) := by decide +kernel
theorem dX7_canal_163 : decode cX7_canal 163 = .ok (.getfield 7, 3) := by decide +kernel
theorem dX7_canal_166 : decode cX7_canal 166 = .ok (.iconst 0, 1) := by decide +kernel
theorem dX7_canal_167 : decode cX7_canal 167 = .ok (.iaload, 1) := by decide +kernel
theorem dX7_canal_168 : decode cX7_canal 168 = .ok (.iconst 1, 1) := by decide +kernel
theorem dX7_canal_169 : decode cX7_canal 169 = .ok (.isub, 1) := by decide +kernel
theorem dX7_canal_170 : decode cX7_canal 170 = .ok (.invokevirtual 50, 3) := by decide +kernel
theorem dX7_canal_173 : decode cX7_canal 173 = .ok (.ireturn, 1) := by decide +kernel
theorem dX7_field_0 : decode cX7_field 0 = .ok (.aload_n 0, 1) := by decide +kernel
theorem dX7_field_1 : decode cX7_field 1 = .ok (.iload_n 1, 1) := by decide +kernel
theorem dX7_field_2 : decode cX7_field 2 = .ok (.invokevirtual 42, 3) := by decide +kernel
theorem dX7_field_5 : decode cX7_field 5 = .ok (.ifCond .eq 36, 3) := by decide +kernel
theorem dX7_field_8 : decode cX7_field 8 = .ok (.iload_n 2, 1) := by decide +kernel
theorem dX7_field_9 : decode cX7_field 9 = .ok (.iconst 1, 1) := by decide +kernel
theorem dX7_field_10 : decode cX7_field 10 = .ok (.sipush 999, 3) := by decide +kernel
theorem dX7_field_13 : decode cX7_field 13 = .ok (.invokestatic 29, 3) := by decide +kernel
theorem dX7_field_16 : decode cX7_field 16 = .ok (.ifCond .eq 25, 3) := by decide +kernel
theorem dX7_field_19 : decode cX7_field 19 = .ok (.iload_n 3, 1) := by decide +kernel
theorem dX7_field_20 : decode cX7_field 20 = .ok (.iconst 1, 1) := by decide +kernel
theorem dX7_field_21 : decode cX7_field 21 = .ok (.sipush 200, 3) := by decide +kernel
theorem dX7_field_24 : decode cX7_field 24 = .ok (.invokestatic 29, 3) := by decide +kernel
theorem dX7_field_27 : decode cX7_field 27 = .ok (.ifCond .eq 14, 3) := by decide +kernel
theorem dX7_field_30 : decode cX7_field 30 = .ok (.iload 4, 2) := by decide +kernel
theorem dX7_field_32 : decode cX7_field 32 = .ok (.iconst 0, 1) := by decide +kernel
theorem dX7_field_33 : decode cX7_field 33 = .ok (.bipush 99, 2) := by decide +kernel
theorem dX7_field_35 : decode cX7_field 35 = .ok (.invokestatic 29, 3) := by decide +kernel
theorem dX7_field_38 : decode cX7_field 38 = .ok (.ifCond .ne 6, 3) := by decide +kernel
theorem dX7_field_41 : decode cX7_field 41 = .ok (.ldc 37, 2) := by decide +kernel
theorem dX7_field_43 : decode cX7_field 43 = .ok (.ireturn, 1) := by decide +kernel
theorem dX7_field_44 : decode cX7_field 44 = .ok (.aload_n 0, 1) := by decide +kernel
theorem dX7_field_45 : decode cX7_field 45 = .ok (.getfield 7, 3) := by decide +kernel
theorem dX7_field_48 : decode cX7_field 48 = .ok (.iconst 1, 1) := by decide +kernel
theorem dX7_field_49 : decode cX7_field 49 = .ok (.iaload, 1) := by decide +kernel
theorem dX7_field_50 : decode cX7_field 50 = .ok (.bipush 10, 2) := by decide +kernel
theorem dX7_field_52 : decode cX7_field 52 = .ok (.if_icmp .ne 6, 3) := by decide +kernel
theorem dX7_field_55 : decode cX7_field 55 = .ok (.ldc 46, 2) := by decide +kernel
theorem dX7_field_57 : decode cX7_field 57 = .ok (.ireturn, 1) := by decide +kernel
theorem dX7_field_58 : decode cX7_field 58 = .ok (.aload_n 0, 1) := by decide +kernel
theorem dX7_field_59 : decode cX7_field 59 = .ok (.invokevirtual 47, 3) := by decide +kernel
theorem dX7_field_62 : decode cX7_field 62 = .ok (.bipush 82, 2) := by decide +kernel
theorem dX7_field_64 : decode cX7_field 64 = .ok (.bipush 7, 2) := by decide +kernel
theorem dX7_field_66 : decode cX7_field 66 = .ok (.aload_n 0, 1) := by decide +kernel
theorem dX7_field_67 : decode cX7_field 67 = .ok (.getfield 7, 3) := by decide +kernel
theorem dX7_field_70 : decode cX7_field 70 = .ok (.iconst 1, 1) := by decide +kernel
theorem dX7_field_71 : decode cX7_field 71 = .ok (.iaload, 1) := by decide +kernel
theorem dX7_field_72 : decode cX7_field 72 = .ok (.imul, 1) := by decide +kernel
theorem dX7_field_73 : decode cX7_field 73 = .ok (.iadd, 1) := by decide +kernel
theorem dX7_field_74 : decode cX7_field 74 = .ok (.istore 5, 2) := by decide +kernel
theorem dX7_field_76 : decode cX7_field 76 = .ok (.iconst 0, 1) := by decide +kernel
theorem dX7_field_77 : decode cX7_field 77 = .ok (.istore 6, 2) := by decide +kernel
theorem dX7_field_79 : decode cX7_field 79 = .ok (.iload 6, 2) := by decide +kernel
theorem dX7_field_81 : decode cX7_field 81 = .ok (.bipush 7, 2) := by decide +kernel
theorem dX7_field_83 : decode cX7_field 83 = .ok (.if_icmp .ge 20, 3) := by decide +kernel
theorem dX7_field_86 : decode cX7_field 86 = .ok (.aload_n 0, 1) := by decide +kernel
theorem dX7_field_87 : decode cX7_field 87 = .ok (.getfield 7, 3) := by decide +kernel
theorem dX7_field_90 : decode cX7_field 90 = .ok (.iload 5, 2) := by decide +kernel
theorem dX7_field_92 : decode cX7_field 92 = .ok (.iload 6, 2) := by decide +kernel
theorem dX7_field_94 : decode cX7_field 94 = .ok (.iadd, 1) := by decide +kernel
theorem dX7_field_95 : decode cX7_field 95 = .ok (.iconst 0, 1) := by decide +kernel
theorem dX7_field_96 : decode cX7_field 96 = .ok (.iastore, 1) := by decide +kernel
theorem dX7_field_97 : decode cX7_field 97 = .ok (.iinc 6 1, 3) := by decide +kernel
theorem dX7_field_100 : decode cX7_field 100 = .ok (.goto (-21), 3) := by decide +kernel
theorem dX7_field_103 : decode cX7_field 103 = .ok (.aload_n 0, 1) := by decide +kernel
theorem dX7_field_104 : decode cX7_field 104 = .ok (.getfield 7, 3) := by decide +kernel
theorem dX7_field_107 : decode cX7_field 107 = .ok (.iload 5, 2) := by decide +kernel
theorem dX7_field_109 : decode cX7_field 109 = .ok (.iload_n 1, 1) := by decide +kernel
theorem dX7_field_110 : decode cX7_field 110 = .ok (.iastore, 1) := by decide +kernel
theorem dX7_field_111 : decode cX7_field 111 = .ok (.aload_n 0, 1) := by decide +kernel
theorem dX7_field_112 : decode cX7_field 112 = .ok (.getfield 7, 3) := by decide +kernel
theorem dX7_field_115 : decode cX7_field 115 = .ok (.iload 5, 2) := by decide +kernel
theorem dX7_field_117 : decode cX7_field 117 = .ok (.iconst 1, 1) := by decide +kernel
theorem dX7_field_118 : decode cX7_field 118 = .ok (.iadd, 1) := by decide +kernel
theorem dX7_field_119 : decode cX7_field 119 = .ok (.iload_n 2, 1) := by decide +kernel
theorem dX7_field_120 : decode cX7_field 120 = .ok (.iastore, 1) := by decide +kernel
theorem dX7_field_121 : decode cX7_field 121 = .ok (.aload_n 0, 1) := by decide +kernel
theorem dX7_field_122 : decode cX7_field 122 = .ok (.getfield 7, 3) := by decide +kernel
theorem dX7_field_125 : decode cX7_field 125 = .ok (.iload 5, 2) := by decide +kernel
theorem dX7_field_127 : decode cX7_field 127 = .ok (.iconst 2, 1) := by decide +kernel
theorem dX7_field_128 : decode cX7_field 128 = .ok (.iadd, 1) := by decide +kernel
theorem dX7_field_129 : decode cX7_field 129 = .ok (.iload_n 3, 1) := by decide +kernel
theorem dX7_field_130 : decode cX7_field 130 = .ok (.iastore, 1) := by decide +kernel
theorem dX7_field_131 : decode cX7_field 131 = .ok (.aload_n 0, 1) := by decide +kernel
theorem dX7_field_132 : decode cX7_field 132 = .ok (.getfield 7, 3) := by decide +kernel
theorem dX7_field_135 : decode cX7_field 135 = .ok (.iload 5, 2) := by decide +kernel
theorem dX7_field_137 : decode cX7_field 137 = .ok (.iconst 3, 1) := by decide +kernel
theorem dX7_field_138 : decode cX7_field 138 = .ok (.iadd, 1) := by decide +kernel
theorem dX7_field_139 : decode cX7_field 139 = .ok (.iload 4, 2) := by decide +kernel
theorem dX7_field_141 : decode cX7_field 141 = .ok (.iastore, 1) := by decide +kernel
theorem dX7_field_142 : decode cX7_field 142 = .ok (.aload_n 0, 1) := by decide +kernel
theorem dX7_field_143 : decode cX7_field 143 = .ok (.getfield 7, 3) := by decide +kernel
theorem dX7_field_146 : decode cX7_field 146 = .ok (.iconst 1, 1) := by decide +kernel
theorem dX7_field_147 : decode cX7_field 147 = .ok (.dup2, 1) := by decide +kernel
theorem dX7_field_148 : decode cX7_field 148 = .ok (.iaload, 1) := by decide +kernel
theorem dX7_field_149 : decode cX7_field 149 = .ok (.iconst 1, 1) := by decide +kernel
theorem dX7_field_150 : decode cX7_field 150 = .ok (.iadd, 1) := by decide +kernel
theorem dX7_field_151 : decode cX7_field 151 = .ok (.iastore, 1) := by decide +kernel
theorem dX7_field_152 : decode cX7_field 152 = .ok (.aload_n 0, 1) := by decide +kernel
theorem dX7_field_153 : decode cX7_field 153 = .ok (.aload_n 0, 1) := by decide +kernel
theorem dX7_field_154 : decode cX7_field 154 = .ok (.getfield 7, 3) := by decide +kernel
theorem dX7_field_157 : decode cX7_field 157 = .ok (.iconst 1, 1) := by decide +kernel
theorem dX7_field_158 : decode cX7_field 158 = .ok (.iaload, 1) := by decide +kernel
theorem dX7_field_159 : decode cX7_field 159 = .ok (.iconst 1, 1) := by decide +kernel
theorem dX7_field_160 : decode cX7_field 160 = .ok (.isub, 1) := by decide +kernel
theorem dX7_field_161 : decode cX7_field 161 = .ok (.invokevirtual 50, 3) := by decide +kernel
theorem dX7_field_164 : decode cX7_field 164 = .ok (.ireturn, 1) := by decide +kernel
theorem dX7_tended_0 : decode cX7_tended 0 = .ok (.iconst 0, 1) := by decide +kernel
theorem dX7_tended_1 : decode cX7_tended 1 = .ok (.istore_n 2, 1) := by decide +kernel
theorem dX7_tended_2 : decode cX7_tended 2 = .ok (.iconst 1, 1) := by decide +kernel
theorem dX7_tended_3 : decode cX7_tended 3 = .ok (.istore_n 3, 1) := by decide +kernel
theorem dX7_tended_4 : decode cX7_tended 4 = .ok (.iload_n 3, 1) := by decide +kernel
theorem dX7_tended_5 : decode cX7_tended 5 = .ok (.aload_n 0, 1) := by decide +kernel
theorem dX7_tended_6 : decode cX7_tended 6 = .ok (.getfield 7, 3) := by decide +kernel
theorem dX7_tended_9 : decode cX7_tended 9 = .ok (.iconst 0, 1) := by decide +kernel
theorem dX7_tended_10 : decode cX7_tended 10 = .ok (.iaload, 1) := by decide +kernel
theorem dX7_tended_11 : decode cX7_tended 11 = .ok (.if_icmp .ge 27, 3) := by decide +kernel
theorem dX7_tended_14 : decode cX7_tended 14 = .ok (.iload_n 2, 1) := by decide +kernel
theorem dX7_tended_15 : decode cX7_tended 15 = .ok (.aload_n 0, 1) := by decide +kernel
theorem dX7_tended_16 : decode cX7_tended 16 = .ok (.iload_n 3, 1) := by decide +kernel
theorem dX7_tended_17 : decode cX7_tended 17 = .ok (.iconst 5, 1) := by decide +kernel
theorem dX7_tended_18 : decode cX7_tended 18 = .ok (.invokevirtual 54, 3) := by decide +kernel
theorem dX7_tended_21 : decode cX7_tended 21 = .ok (.iload_n 1, 1) := by decide +kernel
theorem dX7_tended_22 : decode cX7_tended 22 = .ok (.if_icmp .ne 7, 3) := by decide +kernel
theorem dX7_tended_25 : decode cX7_tended 25 = .ok (.iconst 1, 1) := by decide +kernel
theorem dX7_tended_26 : decode cX7_tended 26 = .ok (.goto 4, 3) := by decide +kernel
theorem dX7_tended_29 : decode cX7_tended 29 = .ok (.iconst 0, 1) := by decide +kernel
theorem dX7_tended_30 : decode cX7_tended 30 = .ok (.iadd, 1) := by decide +kernel
theorem dX7_tended_31 : decode cX7_tended 31 = .ok (.istore_n 2, 1) := by decide +kernel
theorem dX7_tended_32 : decode cX7_tended 32 = .ok (.iinc 3 1, 3) := by decide +kernel
theorem dX7_tended_35 : decode cX7_tended 35 = .ok (.goto (-31), 3) := by decide +kernel
theorem dX7_tended_38 : decode cX7_tended 38 = .ok (.iload_n 2, 1) := by decide +kernel
theorem dX7_tended_39 : decode cX7_tended 39 = .ok (.ireturn, 1) := by decide +kernel
theorem dX7_tend_0 : decode cX7_tend 0 = .ok (.iload_n 1, 1) := by decide +kernel
theorem dX7_tend_1 : decode cX7_tend 1 = .ok (.iconst 0, 1) := by decide +kernel
theorem dX7_tend_2 : decode cX7_tend 2 = .ok (.iconst 2, 1) := by decide +kernel
theorem dX7_tend_3 : decode cX7_tend 3 = .ok (.invokestatic 29, 3) := by decide +kernel
theorem dX7_tend_6 : decode cX7_tend 6 = .ok (.ifCond .eq 11, 3) := by decide +kernel
theorem dX7_tend_9 : decode cX7_tend 9 = .ok (.aload_n 0, 1) := by decide +kernel
theorem dX7_tend_10 : decode cX7_tend 10 = .ok (.iload_n 2, 1) := by decide +kernel
theorem dX7_tend_11 : decode cX7_tend 11 = .ok (.invokevirtual 57, 3) := by decide +kernel
theorem dX7_tend_14 : decode cX7_tend 14 = .ok (.ifCond .ne 6, 3) := by decide +kernel
theorem dX7_tend_17 : decode cX7_tend 17 = .ok (.ldc 37, 2) := by decide +kernel
theorem dX7_tend_19 : decode cX7_tend 19 = .ok (.ireturn, 1) := by decide +kernel
theorem dX7_tend_20 : decode cX7_tend 20 = .ok (.aload_n 0, 1) := by decide +kernel
theorem dX7_tend_21 : decode cX7_tend 21 = .ok (.iload_n 2, 1) := by decide +kernel
theorem dX7_tend_22 : decode cX7_tend 22 = .ok (.iconst 5, 1) := by decide +kernel
theorem dX7_tend_23 : decode cX7_tend 23 = .ok (.invokevirtual 54, 3) := by decide +kernel
theorem dX7_tend_26 : decode cX7_tend 26 = .ok (.ifCond .ge 18, 3) := by decide +kernel
theorem dX7_tend_29 : decode cX7_tend 29 = .ok (.iload_n 1, 1) := by decide +kernel
theorem dX7_tend_30 : decode cX7_tend 30 = .ok (.iconst 2, 1) := by decide +kernel
theorem dX7_tend_31 : decode cX7_tend 31 = .ok (.if_icmp .ge 16, 3) := by decide +kernel
theorem dX7_tend_34 : decode cX7_tend 34 = .ok (.aload_n 0, 1) := by decide +kernel
theorem dX7_tend_35 : decode cX7_tend 35 = .ok (.iload_n 2, 1) := by decide +kernel
theorem dX7_tend_36 : decode cX7_tend 36 = .ok (.iconst 1, 1) := by decide +kernel
theorem dX7_tend_37 : decode cX7_tend 37 = .ok (.invokevirtual 54, 3) := by decide +kernel
theorem dX7_tend_40 : decode cX7_tend 40 = .ok (.iload_n 1, 1) := by decide +kernel
theorem dX7_tend_41 : decode cX7_tend 41 = .ok (.if_icmp .eq 6, 3) := by decide +kernel
theorem dX7_tend_44 : decode cX7_tend 44 = .ok (.ldc 60, 2) := by decide +kernel
theorem dX7_tend_46 : decode cX7_tend 46 = .ok (.ireturn, 1) := by decide +kernel
theorem dX7_tend_47 : decode cX7_tend 47 = .ok (.aload_n 0, 1) := by decide +kernel
theorem dX7_tend_48 : decode cX7_tend 48 = .ok (.iload_n 1, 1) := by decide +kernel
theorem dX7_tend_49 : decode cX7_tend 49 = .ok (.invokevirtual 61, 3) := by decide +kernel
theorem dX7_tend_52 : decode cX7_tend 52 = .ok (.iconst 2, 1) := by decide +kernel
theorem dX7_tend_53 : decode cX7_tend 53 = .ok (.if_icmp .ne 6, 3) := by decide +kernel
theorem dX7_tend_56 : decode cX7_tend 56 = .ok (.ldc 46, 2) := by decide +kernel
theorem dX7_tend_58 : decode cX7_tend 58 = .ok (.ireturn, 1) := by decide +kernel
theorem dX7_tend_59 : decode cX7_tend 59 = .ok (.aload_n 0, 1) := by decide +kernel
theorem dX7_tend_60 : decode cX7_tend 60 = .ok (.invokevirtual 47, 3) := by decide +kernel
theorem dX7_tend_63 : decode cX7_tend 63 = .ok (.aload_n 0, 1) := by decide +kernel
theorem dX7_tend_64 : decode cX7_tend 64 = .ok (.getfield 7, 3) := by decide +kernel
theorem dX7_tend_67 : decode cX7_tend 67 = .ok (.bipush 10, 2) := by decide +kernel
theorem dX7_tend_69 : decode cX7_tend 69 = .ok (.bipush 9, 2) := by decide +kernel
theorem dX7_tend_71 : decode cX7_tend 71 = .ok (.iload_n 2, 1) := by decide +kernel
theorem dX7_tend_72 : decode cX7_tend 72 = .ok (.imul, 1) := by decide +kernel
theorem dX7_tend_73 : decode cX7_tend 73 = .ok (.iadd, 1) := by decide +kernel
theorem dX7_tend_74 : decode cX7_tend 74 = .ok (.iconst 5, 1) := by decide +kernel
theorem dX7_tend_75 : decode cX7_tend 75 = .ok (.iadd, 1) := by decide +kernel
theorem dX7_tend_76 : decode cX7_tend 76 = .ok (.iload_n 1, 1) := by decide +kernel
theorem dX7_tend_77 : decode cX7_tend 77 = .ok (.iastore, 1) := by decide +kernel
theorem dX7_tend_78 : decode cX7_tend 78 = .ok (.aload_n 0, 1) := by decide +kernel
theorem dX7_tend_79 : decode cX7_tend 79 = .ok (.aload_n 0, 1) := by decide +kernel
theorem dX7_tend_80 : decode cX7_tend 80 = .ok (.iload_n 1, 1) := by decide +kernel
theorem dX7_tend_81 : decode cX7_tend 81 = .ok (.invokevirtual 61, 3) := by decide +kernel
theorem dX7_tend_84 : decode cX7_tend 84 = .ok (.invokevirtual 50, 3) := by decide +kernel
theorem dX7_tend_87 : decode cX7_tend 87 = .ok (.ireturn, 1) := by decide +kernel
theorem dX7_leave_0 : decode cX7_leave 0 = .ok (.aload_n 0, 1) := by decide +kernel
theorem dX7_leave_1 : decode cX7_leave 1 = .ok (.iload_n 1, 1) := by decide +kernel
theorem dX7_leave_2 : decode cX7_leave 2 = .ok (.invokevirtual 57, 3) := by decide +kernel
theorem dX7_leave_5 : decode cX7_leave 5 = .ok (.ifCond .ne 6, 3) := by decide +kernel
theorem dX7_leave_8 : decode cX7_leave 8 = .ok (.ldc 37, 2) := by decide +kernel
theorem dX7_leave_10 : decode cX7_leave 10 = .ok (.ireturn, 1) := by decide +kernel
theorem dX7_leave_11 : decode cX7_leave 11 = .ok (.aload_n 0, 1) := by decide +kernel
theorem dX7_leave_12 : decode cX7_leave 12 = .ok (.iload_n 1, 1) := by decide +kernel
theorem dX7_leave_13 : decode cX7_leave 13 = .ok (.iconst 5, 1) := by decide +kernel
theorem dX7_leave_14 : decode cX7_leave 14 = .ok (.invokevirtual 54, 3) := by decide +kernel
theorem dX7_leave_17 : decode cX7_leave 17 = .ok (.istore_n 2, 1) := by decide +kernel
theorem dX7_leave_18 : decode cX7_leave 18 = .ok (.iload_n 2, 1) := by decide +kernel
theorem dX7_leave_19 : decode cX7_leave 19 = .ok (.ifCond .ge 6, 3) := by decide +kernel
theorem dX7_leave_22 : decode cX7_leave 22 = .ok (.ldc 60, 2) := by decide +kernel
theorem dX7_leave_24 : decode cX7_leave 24 = .ok (.ireturn, 1) := by decide +kernel
theorem dX7_leave_25 : decode cX7_leave 25 = .ok (.aload_n 0, 1) := by decide +kernel
theorem dX7_leave_26 : decode cX7_leave 26 = .ok (.invokevirtual 47, 3) := by decide +kernel
theorem dX7_leave_29 : decode cX7_leave 29 = .ok (.aload_n 0, 1) := by decide +kernel
theorem dX7_leave_30 : decode cX7_leave 30 = .ok (.getfield 7, 3) := by decide +kernel
theorem dX7_leave_33 : decode cX7_leave 33 = .ok (.bipush 10, 2) := by decide +kernel
theorem dX7_leave_35 : decode cX7_leave 35 = .ok (.bipush 9, 2) := by decide +kernel
theorem dX7_leave_37 : decode cX7_leave 37 = .ok (.iload_n 1, 1) := by decide +kernel
theorem dX7_leave_38 : decode cX7_leave 38 = .ok (.imul, 1) := by decide +kernel
theorem dX7_leave_39 : decode cX7_leave 39 = .ok (.iadd, 1) := by decide +kernel
theorem dX7_leave_40 : decode cX7_leave 40 = .ok (.iconst 5, 1) := by decide +kernel
theorem dX7_leave_41 : decode cX7_leave 41 = .ok (.iadd, 1) := by decide +kernel
theorem dX7_leave_42 : decode cX7_leave 42 = .ok (.iconst (-1), 1) := by decide +kernel
theorem dX7_leave_43 : decode cX7_leave 43 = .ok (.iastore, 1) := by decide +kernel
theorem dX7_leave_44 : decode cX7_leave 44 = .ok (.aload_n 0, 1) := by decide +kernel
theorem dX7_leave_45 : decode cX7_leave 45 = .ok (.iload_n 2, 1) := by decide +kernel
theorem dX7_leave_46 : decode cX7_leave 46 = .ok (.invokevirtual 50, 3) := by decide +kernel
theorem dX7_leave_49 : decode cX7_leave 49 = .ok (.ireturn, 1) := by decide +kernel
theorem dX7_openOnes_0 : decode cX7_openOnes 0 = .ok (.iconst 0, 1) := by decide +kernel
theorem dX7_openOnes_1 : decode cX7_openOnes 1 = .ok (.istore_n 1, 1) := by decide +kernel
theorem dX7_openOnes_2 : decode cX7_openOnes 2 = .ok (.iconst 1, 1) := by decide +kernel
theorem dX7_openOnes_3 : decode cX7_openOnes 3 = .ok (.istore_n 2, 1) := by decide +kernel
theorem dX7_openOnes_4 : decode cX7_openOnes 4 = .ok (.iload_n 2, 1) := by decide +kernel
theorem dX7_openOnes_5 : decode cX7_openOnes 5 = .ok (.aload_n 0, 1) := by decide +kernel
theorem dX7_openOnes_6 : decode cX7_openOnes 6 = .ok (.getfield 7, 3) := by decide +kernel
theorem dX7_openOnes_9 : decode cX7_openOnes 9 = .ok (.iconst 0, 1) := by decide +kernel
theorem dX7_openOnes_10 : decode cX7_openOnes 10 = .ok (.iaload, 1) := by decide +kernel
theorem dX7_openOnes_11 : decode cX7_openOnes 11 = .ok (.if_icmp .ge 20, 3) := by decide +kernel
theorem dX7_openOnes_14 : decode cX7_openOnes 14 = .ok (.iload_n 1, 1) := by decide +kernel
theorem dX7_openOnes_15 : decode cX7_openOnes 15 = .ok (.aload_n 0, 1) := by decide +kernel
theorem dX7_openOnes_16 : decode cX7_openOnes 16 = .ok (.iload_n 2, 1) := by decide +kernel
theorem dX7_openOnes_17 : decode cX7_openOnes 17 = .ok (.iconst 4, 1) := by decide +kernel
theorem dX7_openOnes_18 : decode cX7_openOnes 18 = .ok (.invokevirtual 54, 3) := by decide +kernel
theorem dX7_openOnes_21 : decode cX7_openOnes 21 = .ok (.iload_n 2, 1) := by decide +kernel
theorem dX7_openOnes_22 : decode cX7_openOnes 22 = .ok (.ishl, 1) := by decide +kernel
theorem dX7_openOnes_23 : decode cX7_openOnes 23 = .ok (.ior, 1) := by decide +kernel
theorem dX7_openOnes_24 : decode cX7_openOnes 24 = .ok (.istore_n 1, 1) := by decide +kernel
theorem dX7_openOnes_25 : decode cX7_openOnes 25 = .ok (.iinc 2 1, 3) := by decide +kernel
theorem dX7_openOnes_28 : decode cX7_openOnes 28 = .ok (.goto (-24), 3) := by decide +kernel
theorem dX7_openOnes_31 : decode cX7_openOnes 31 = .ok (.iload_n 1, 1) := by decide +kernel
theorem dX7_openOnes_32 : decode cX7_openOnes 32 = .ok (.ireturn, 1) := by decide +kernel
theorem dX7_sets_0 : decode cX7_sets 0 = .ok (.iconst 1, 1) := by decide +kernel
theorem dX7_sets_1 : decode cX7_sets 1 = .ok (.istore_n 2, 1) := by decide +kernel
theorem dX7_sets_2 : decode cX7_sets 2 = .ok (.iload_n 2, 1) := by decide +kernel
theorem dX7_sets_3 : decode cX7_sets 3 = .ok (.aload_n 0, 1) := by decide +kernel
theorem dX7_sets_4 : decode cX7_sets 4 = .ok (.getfield 7, 3) := by decide +kernel
theorem dX7_sets_7 : decode cX7_sets 7 = .ok (.iconst 0, 1) := by decide +kernel
theorem dX7_sets_8 : decode cX7_sets 8 = .ok (.iaload, 1) := by decide +kernel
theorem dX7_sets_9 : decode cX7_sets 9 = .ok (.if_icmp .ge 28, 3) := by decide +kernel
theorem dX7_sets_12 : decode cX7_sets 12 = .ok (.aload_n 0, 1) := by decide +kernel
theorem dX7_sets_13 : decode cX7_sets 13 = .ok (.getfield 7, 3) := by decide +kernel
theorem dX7_sets_16 : decode cX7_sets 16 = .ok (.bipush 10, 2) := by decide +kernel
theorem dX7_sets_18 : decode cX7_sets 18 = .ok (.bipush 9, 2) := by decide +kernel
theorem dX7_sets_20 : decode cX7_sets 20 = .ok (.iload_n 2, 1) := by decide +kernel
theorem dX7_sets_21 : decode cX7_sets 21 = .ok (.imul, 1) := by decide +kernel
theorem dX7_sets_22 : decode cX7_sets 22 = .ok (.iadd, 1) := by decide +kernel
theorem dX7_sets_23 : decode cX7_sets 23 = .ok (.iconst 4, 1) := by decide +kernel
theorem dX7_sets_24 : decode cX7_sets 24 = .ok (.iadd, 1) := by decide +kernel
theorem dX7_sets_25 : decode cX7_sets 25 = .ok (.iload_n 1, 1) := by decide +kernel
theorem dX7_sets_26 : decode cX7_sets 26 = .ok (.iload_n 2, 1) := by decide +kernel
theorem dX7_sets_27 : decode cX7_sets 27 = .ok (.ishr, 1) := by decide +kernel
theorem dX7_sets_28 : decode cX7_sets 28 = .ok (.iconst 1, 1) := by decide +kernel
theorem dX7_sets_29 : decode cX7_sets 29 = .ok (.iand, 1) := by decide +kernel
theorem dX7_sets_30 : decode cX7_sets 30 = .ok (.iastore, 1) := by decide +kernel
theorem dX7_sets_31 : decode cX7_sets 31 = .ok (.iinc 2 1, 3) := by decide +kernel
theorem dX7_sets_34 : decode cX7_sets 34 = .ok (.goto (-32), 3) := by decide +kernel
theorem dX7_sets_37 : decode cX7_sets 37 = .ok (.return_, 1) := by decide +kernel
theorem dX7_moves_0 : decode cX7_moves 0 = .ok (.aload_n 0, 1) := by decide +kernel
theorem dX7_moves_1 : decode cX7_moves 1 = .ok (.iload_n 1, 1) := by decide +kernel
theorem dX7_moves_2 : decode cX7_moves 2 = .ok (.invokevirtual 57, 3) := by decide +kernel
theorem dX7_moves_5 : decode cX7_moves 5 = .ok (.ifCond .ne 6, 3) := by decide +kernel
theorem dX7_moves_8 : decode cX7_moves 8 = .ok (.ldc 37, 2) := by decide +kernel
theorem dX7_moves_10 : decode cX7_moves 10 = .ok (.ireturn, 1) := by decide +kernel
theorem dX7_moves_11 : decode cX7_moves 11 = .ok (.aload_n 0, 1) := by decide +kernel
theorem dX7_moves_12 : decode cX7_moves 12 = .ok (.iload_n 1, 1) := by decide +kernel
theorem dX7_moves_13 : decode cX7_moves 13 = .ok (.iconst 4, 1) := by decide +kernel
theorem dX7_moves_14 : decode cX7_moves 14 = .ok (.invokevirtual 54, 3) := by decide +kernel
theorem dX7_moves_17 : decode cX7_moves 17 = .ok (.iload_n 2, 1) := by decide +kernel
theorem dX7_moves_18 : decode cX7_moves 18 = .ok (.if_icmp .eq 12, 3) := by decide +kernel
theorem dX7_moves_21 : decode cX7_moves 21 = .ok (.aload_n 0, 1) := by decide +kernel
theorem dX7_moves_22 : decode cX7_moves 22 = .ok (.iload_n 1, 1) := by decide +kernel
theorem dX7_moves_23 : decode cX7_moves 23 = .ok (.iconst 5, 1) := by decide +kernel
theorem dX7_moves_24 : decode cX7_moves 24 = .ok (.invokevirtual 54, 3) := by decide +kernel
theorem dX7_moves_27 : decode cX7_moves 27 = .ok (.ifCond .ge 6, 3) := by decide +kernel
theorem dX7_moves_30 : decode cX7_moves 30 = .ok (.ldc 60, 2) := by decide +kernel
theorem dX7_moves_32 : decode cX7_moves 32 = .ok (.ireturn, 1) := by decide +kernel
theorem dX7_moves_33 : decode cX7_moves 33 = .ok (.aload_n 0, 1) := by decide +kernel
theorem dX7_moves_34 : decode cX7_moves 34 = .ok (.getfield 7, 3) := by decide +kernel
theorem dX7_moves_37 : decode cX7_moves 37 = .ok (.bipush 10, 2) := by decide +kernel
theorem dX7_moves_39 : decode cX7_moves 39 = .ok (.bipush 9, 2) := by decide +kernel
theorem dX7_moves_41 : decode cX7_moves 41 = .ok (.iload_n 1, 1) := by decide +kernel
theorem dX7_moves_42 : decode cX7_moves 42 = .ok (.imul, 1) := by decide +kernel
theorem dX7_moves_43 : decode cX7_moves 43 = .ok (.iadd, 1) := by decide +kernel
theorem dX7_moves_44 : decode cX7_moves 44 = .ok (.iconst 4, 1) := by decide +kernel
theorem dX7_moves_45 : decode cX7_moves 45 = .ok (.iadd, 1) := by decide +kernel
theorem dX7_moves_46 : decode cX7_moves 46 = .ok (.iload_n 2, 1) := by decide +kernel
theorem dX7_moves_47 : decode cX7_moves 47 = .ok (.iastore, 1) := by decide +kernel
theorem dX7_moves_48 : decode cX7_moves 48 = .ok (.aload_n 0, 1) := by decide +kernel
theorem dX7_moves_49 : decode cX7_moves 49 = .ok (.invokevirtual 64, 3) := by decide +kernel
theorem dX7_moves_52 : decode cX7_moves 52 = .ok (.ireturn, 1) := by decide +kernel
theorem dX7_open_0 : decode cX7_open 0 = .ok (.aload_n 0, 1) := by decide +kernel
theorem dX7_open_1 : decode cX7_open 1 = .ok (.invokevirtual 47, 3) := by decide +kernel
theorem dX7_open_4 : decode cX7_open 4 = .ok (.aload_n 0, 1) := by decide +kernel
theorem dX7_open_5 : decode cX7_open 5 = .ok (.aload_n 0, 1) := by decide +kernel
theorem dX7_open_6 : decode cX7_open 6 = .ok (.iload_n 1, 1) := by decide +kernel
theorem dX7_open_7 : decode cX7_open 7 = .ok (.iconst 1, 1) := by decide +kernel
theorem dX7_open_8 : decode cX7_open 8 = .ok (.invokevirtual 68, 3) := by decide +kernel
theorem dX7_open_11 : decode cX7_open 11 = .ok (.invokevirtual 50, 3) := by decide +kernel
theorem dX7_open_14 : decode cX7_open 14 = .ok (.ireturn, 1) := by decide +kernel
theorem dX7_close_0 : decode cX7_close 0 = .ok (.aload_n 0, 1) := by decide +kernel
theorem dX7_close_1 : decode cX7_close 1 = .ok (.invokevirtual 47, 3) := by decide +kernel
theorem dX7_close_4 : decode cX7_close 4 = .ok (.aload_n 0, 1) := by decide +kernel
theorem dX7_close_5 : decode cX7_close 5 = .ok (.aload_n 0, 1) := by decide +kernel
theorem dX7_close_6 : decode cX7_close 6 = .ok (.iload_n 1, 1) := by decide +kernel
theorem dX7_close_7 : decode cX7_close 7 = .ok (.iconst 0, 1) := by decide +kernel
theorem dX7_close_8 : decode cX7_close 8 = .ok (.invokevirtual 68, 3) := by decide +kernel
theorem dX7_close_11 : decode cX7_close 11 = .ok (.invokevirtual 50, 3) := by decide +kernel
theorem dX7_close_14 : decode cX7_close 14 = .ok (.ireturn, 1) := by decide +kernel
theorem dX7_calling_0 : decode cX7_calling 0 = .ok (.iconst 0, 1) := by decide +kernel
theorem dX7_calling_1 : decode cX7_calling 1 = .ok (.istore_n 1, 1) := by decide +kernel
theorem dX7_calling_2 : decode cX7_calling 2 = .ok (.iconst 0, 1) := by decide +kernel
theorem dX7_calling_3 : decode cX7_calling 3 = .ok (.istore_n 2, 1) := by decide +kernel
theorem dX7_calling_4 : decode cX7_calling 4 = .ok (.iload_n 2, 1) := by decide +kernel
theorem dX7_calling_5 : decode cX7_calling 5 = .ok (.aload_n 0, 1) := by decide +kernel
theorem dX7_calling_6 : decode cX7_calling 6 = .ok (.getfield 7, 3) := by decide +kernel
theorem dX7_calling_9 : decode cX7_calling 9 = .ok (.iconst 1, 1) := by decide +kernel
theorem dX7_calling_10 : decode cX7_calling 10 = .ok (.iaload, 1) := by decide +kernel
theorem dX7_calling_11 : decode cX7_calling 11 = .ok (.if_icmp .ge 20, 3) := by decide +kernel
theorem dX7_calling_14 : decode cX7_calling 14 = .ok (.iload_n 1, 1) := by decide +kernel
theorem dX7_calling_15 : decode cX7_calling 15 = .ok (.aload_n 0, 1) := by decide +kernel
theorem dX7_calling_16 : decode cX7_calling 16 = .ok (.iload_n 2, 1) := by decide +kernel
theorem dX7_calling_17 : decode cX7_calling 17 = .ok (.iconst 5, 1) := by decide +kernel
theorem dX7_calling_18 : decode cX7_calling 18 = .ok (.invokevirtual 33, 3) := by decide +kernel
theorem dX7_calling_21 : decode cX7_calling 21 = .ok (.iload_n 2, 1) := by decide +kernel
theorem dX7_calling_22 : decode cX7_calling 22 = .ok (.ishl, 1) := by decide +kernel
theorem dX7_calling_23 : decode cX7_calling 23 = .ok (.ior, 1) := by decide +kernel
theorem dX7_calling_24 : decode cX7_calling 24 = .ok (.istore_n 1, 1) := by decide +kernel
theorem dX7_calling_25 : decode cX7_calling 25 = .ok (.iinc 2 1, 3) := by decide +kernel
theorem dX7_calling_28 : decode cX7_calling 28 = .ok (.goto (-24), 3) := by decide +kernel
theorem dX7_calling_31 : decode cX7_calling 31 = .ok (.iload_n 1, 1) := by decide +kernel
theorem dX7_calling_32 : decode cX7_calling 32 = .ok (.ireturn, 1) := by decide +kernel
theorem dX7_ones_0 : decode cX7_ones 0 = .ok (.iconst 0, 1) := by decide +kernel
theorem dX7_ones_1 : decode cX7_ones 1 = .ok (.istore_n 1, 1) := by decide +kernel
theorem dX7_ones_2 : decode cX7_ones 2 = .ok (.iconst 0, 1) := by decide +kernel
theorem dX7_ones_3 : decode cX7_ones 3 = .ok (.istore_n 2, 1) := by decide +kernel
theorem dX7_ones_4 : decode cX7_ones 4 = .ok (.iload_n 2, 1) := by decide +kernel
theorem dX7_ones_5 : decode cX7_ones 5 = .ok (.bipush 10, 2) := by decide +kernel
theorem dX7_ones_7 : decode cX7_ones 7 = .ok (.if_icmp .ge 17, 3) := by decide +kernel
theorem dX7_ones_10 : decode cX7_ones 10 = .ok (.iload_n 1, 1) := by decide +kernel
theorem dX7_ones_11 : decode cX7_ones 11 = .ok (.iload_n 0, 1) := by decide +kernel
theorem dX7_ones_12 : decode cX7_ones 12 = .ok (.iload_n 2, 1) := by decide +kernel
theorem dX7_ones_13 : decode cX7_ones 13 = .ok (.ishr, 1) := by decide +kernel
theorem dX7_ones_14 : decode cX7_ones 14 = .ok (.iconst 1, 1) := by decide +kernel
theorem dX7_ones_15 : decode cX7_ones 15 = .ok (.iand, 1) := by decide +kernel
theorem dX7_ones_16 : decode cX7_ones 16 = .ok (.iadd, 1) := by decide +kernel
theorem dX7_ones_17 : decode cX7_ones 17 = .ok (.istore_n 1, 1) := by decide +kernel
theorem dX7_ones_18 : decode cX7_ones 18 = .ok (.iinc 2 1, 3) := by decide +kernel
theorem dX7_ones_21 : decode cX7_ones 21 = .ok (.goto (-17), 3) := by decide +kernel
theorem dX7_ones_24 : decode cX7_ones 24 = .ok (.iload_n 1, 1) := by decide +kernel
theorem dX7_ones_25 : decode cX7_ones 25 = .ok (.ireturn, 1) := by decide +kernel
theorem dX7_calls_0 : decode cX7_calls 0 = .ok (.aload_n 0, 1) := by decide +kernel
theorem dX7_calls_1 : decode cX7_calls 1 = .ok (.iload_n 1, 1) := by decide +kernel
theorem dX7_calls_2 : decode cX7_calls 2 = .ok (.invokevirtual 71, 3) := by decide +kernel
theorem dX7_calls_5 : decode cX7_calls 5 = .ok (.ifCond .ne 6, 3) := by decide +kernel
theorem dX7_calls_8 : decode cX7_calls 8 = .ok (.ldc 37, 2) := by decide +kernel
theorem dX7_calls_10 : decode cX7_calls 10 = .ok (.ireturn, 1) := by decide +kernel
theorem dX7_calls_11 : decode cX7_calls 11 = .ok (.aload_n 0, 1) := by decide +kernel
theorem dX7_calls_12 : decode cX7_calls 12 = .ok (.iload_n 1, 1) := by decide +kernel
theorem dX7_calls_13 : decode cX7_calls 13 = .ok (.iconst 5, 1) := by decide +kernel
theorem dX7_calls_14 : decode cX7_calls 14 = .ok (.invokevirtual 33, 3) := by decide +kernel
theorem dX7_calls_17 : decode cX7_calls 17 = .ok (.iconst 1, 1) := by decide +kernel
theorem dX7_calls_18 : decode cX7_calls 18 = .ok (.if_icmp .eq 11, 3) := by decide +kernel
theorem dX7_calls_21 : decode cX7_calls 21 = .ok (.aload_n 0, 1) := by decide +kernel
theorem dX7_calls_22 : decode cX7_calls 22 = .ok (.iload_n 1, 1) := by decide +kernel
theorem dX7_calls_23 : decode cX7_calls 23 = .ok (.invokevirtual 74, 3) := by decide +kernel
theorem dX7_calls_26 : decode cX7_calls 26 = .ok (.ifCond .ne 6, 3) := by decide +kernel
theorem dX7_calls_29 : decode cX7_calls 29 = .ok (.ldc 60, 2) := by decide +kernel
theorem dX7_calls_31 : decode cX7_calls 31 = .ok (.ireturn, 1) := by decide +kernel
theorem dX7_calls_32 : decode cX7_calls 32 = .ok (.aload_n 0, 1) := by decide +kernel
theorem dX7_calls_33 : decode cX7_calls 33 = .ok (.getfield 7, 3) := by decide +kernel
theorem dX7_calls_36 : decode cX7_calls 36 = .ok (.bipush 82, 2) := by decide +kernel
theorem dX7_calls_38 : decode cX7_calls 38 = .ok (.bipush 7, 2) := by decide +kernel
theorem dX7_calls_40 : decode cX7_calls 40 = .ok (.iload_n 1, 1) := by decide +kernel
theorem dX7_calls_41 : decode cX7_calls 41 = .ok (.imul, 1) := by decide +kernel
theorem dX7_calls_42 : decode cX7_calls 42 = .ok (.iadd, 1) := by decide +kernel
theorem dX7_calls_43 : decode cX7_calls 43 = .ok (.iconst 5, 1) := by decide +kernel
theorem dX7_calls_44 : decode cX7_calls 44 = .ok (.iadd, 1) := by decide +kernel
theorem dX7_calls_45 : decode cX7_calls 45 = .ok (.iconst 1, 1) := by decide +kernel
theorem dX7_calls_46 : decode cX7_calls 46 = .ok (.iastore, 1) := by decide +kernel
theorem dX7_calls_47 : decode cX7_calls 47 = .ok (.aload_n 0, 1) := by decide +kernel
theorem dX7_calls_48 : decode cX7_calls 48 = .ok (.invokevirtual 77, 3) := by decide +kernel
theorem dX7_calls_51 : decode cX7_calls 51 = .ok (.invokestatic 80, 3) := by decide +kernel
theorem dX7_calls_54 : decode cX7_calls 54 = .ok (.ireturn, 1) := by decide +kernel
theorem dX7_call_0 : decode cX7_call 0 = .ok (.aload_n 0, 1) := by decide +kernel
theorem dX7_call_1 : decode cX7_call 1 = .ok (.invokevirtual 47, 3) := by decide +kernel
theorem dX7_call_4 : decode cX7_call 4 = .ok (.aload_n 0, 1) := by decide +kernel
theorem dX7_call_5 : decode cX7_call 5 = .ok (.aload_n 0, 1) := by decide +kernel
theorem dX7_call_6 : decode cX7_call 6 = .ok (.iload_n 1, 1) := by decide +kernel
theorem dX7_call_7 : decode cX7_call 7 = .ok (.invokevirtual 83, 3) := by decide +kernel
theorem dX7_call_10 : decode cX7_call 10 = .ok (.invokevirtual 50, 3) := by decide +kernel
theorem dX7_call_13 : decode cX7_call 13 = .ok (.ireturn, 1) := by decide +kernel
theorem dX7_turn_0 : decode cX7_turn 0 = .ok (.aload_n 0, 1) := by decide +kernel
theorem dX7_turn_1 : decode cX7_turn 1 = .ok (.iload_n 1, 1) := by decide +kernel
theorem dX7_turn_2 : decode cX7_turn 2 = .ok (.invokevirtual 86, 3) := by decide +kernel
theorem dX7_turn_5 : decode cX7_turn 5 = .ok (.ifCond .eq 13, 3) := by decide +kernel
theorem dX7_turn_8 : decode cX7_turn 8 = .ok (.iload_n 2, 1) := by decide +kernel
theorem dX7_turn_9 : decode cX7_turn 9 = .ok (.iconst 1, 1) := by decide +kernel
theorem dX7_turn_10 : decode cX7_turn 10 = .ok (.bipush 20, 2) := by decide +kernel
theorem dX7_turn_12 : decode cX7_turn 12 = .ok (.invokestatic 29, 3) := by decide +kernel
theorem dX7_turn_15 : decode cX7_turn 15 = .ok (.ifCond .ne 6, 3) := by decide +kernel
theorem dX7_turn_18 : decode cX7_turn 18 = .ok (.ldc 37, 2) := by decide +kernel
theorem dX7_turn_20 : decode cX7_turn 20 = .ok (.ireturn, 1) := by decide +kernel
theorem dX7_turn_21 : decode cX7_turn 21 = .ok (.aload_n 0, 1) := by decide +kernel
theorem dX7_turn_22 : decode cX7_turn 22 = .ok (.getfield 7, 3) := by decide +kernel
theorem dX7_turn_25 : decode cX7_turn 25 = .ok (.iconst 2, 1) := by decide +kernel
theorem dX7_turn_26 : decode cX7_turn 26 = .ok (.iaload, 1) := by decide +kernel
theorem dX7_turn_27 : decode cX7_turn 27 = .ok (.bipush 8, 2) := by decide +kernel
theorem dX7_turn_29 : decode cX7_turn 29 = .ok (.if_icmp .ne 6, 3) := by decide +kernel
theorem dX7_turn_32 : decode cX7_turn 32 = .ok (.ldc 46, 2) := by decide +kernel
theorem dX7_turn_34 : decode cX7_turn 34 = .ok (.ireturn, 1) := by decide +kernel
theorem dX7_turn_35 : decode cX7_turn 35 = .ok (.aload_n 0, 1) := by decide +kernel
theorem dX7_turn_36 : decode cX7_turn 36 = .ok (.invokevirtual 47, 3) := by decide +kernel
theorem dX7_turn_39 : decode cX7_turn 39 = .ok (.aload_n 0, 1) := by decide +kernel
theorem dX7_turn_40 : decode cX7_turn 40 = .ok (.getfield 7, 3) := by decide +kernel
theorem dX7_turn_43 : decode cX7_turn 43 = .ok (.sipush 152, 3) := by decide +kernel
theorem dX7_turn_46 : decode cX7_turn 46 = .ok (.iconst 2, 1) := by decide +kernel
theorem dX7_turn_47 : decode cX7_turn 47 = .ok (.aload_n 0, 1) := by decide +kernel
theorem dX7_turn_48 : decode cX7_turn 48 = .ok (.getfield 7, 3) := by decide +kernel
theorem dX7_turn_51 : decode cX7_turn 51 = .ok (.iconst 2, 1) := by decide +kernel
theorem dX7_turn_52 : decode cX7_turn 52 = .ok (.iaload, 1) := by decide +kernel
theorem dX7_turn_53 : decode cX7_turn 53 = .ok (.imul, 1) := by decide +kernel
theorem dX7_turn_54 : decode cX7_turn 54 = .ok (.iadd, 1) := by decide +kernel
theorem dX7_turn_55 : decode cX7_turn 55 = .ok (.iload_n 1, 1) := by decide +kernel
theorem dX7_turn_56 : decode cX7_turn 56 = .ok (.iastore, 1) := by decide +kernel
theorem dX7_turn_57 : decode cX7_turn 57 = .ok (.aload_n 0, 1) := by decide +kernel
theorem dX7_turn_58 : decode cX7_turn 58 = .ok (.getfield 7, 3) := by decide +kernel
theorem dX7_turn_61 : decode cX7_turn 61 = .ok (.sipush 152, 3) := by decide +kernel
theorem dX7_turn_64 : decode cX7_turn 64 = .ok (.iconst 2, 1) := by decide +kernel
theorem dX7_turn_65 : decode cX7_turn 65 = .ok (.aload_n 0, 1) := by decide +kernel
theorem dX7_turn_66 : decode cX7_turn 66 = .ok (.getfield 7, 3) := by decide +kernel
theorem dX7_turn_69 : decode cX7_turn 69 = .ok (.iconst 2, 1) := by decide +kernel
theorem dX7_turn_70 : decode cX7_turn 70 = .ok (.iaload, 1) := by decide +kernel
theorem dX7_turn_71 : decode cX7_turn 71 = .ok (.imul, 1) := by decide +kernel
theorem dX7_turn_72 : decode cX7_turn 72 = .ok (.iadd, 1) := by decide +kernel
theorem dX7_turn_73 : decode cX7_turn 73 = .ok (.iconst 1, 1) := by decide +kernel
theorem dX7_turn_74 : decode cX7_turn 74 = .ok (.iadd, 1) := by decide +kernel
theorem dX7_turn_75 : decode cX7_turn 75 = .ok (.iload_n 2, 1) := by decide +kernel
theorem dX7_turn_76 : decode cX7_turn 76 = .ok (.iastore, 1) := by decide +kernel
theorem dX7_turn_77 : decode cX7_turn 77 = .ok (.aload_n 0, 1) := by decide +kernel
theorem dX7_turn_78 : decode cX7_turn 78 = .ok (.getfield 7, 3) := by decide +kernel
theorem dX7_turn_81 : decode cX7_turn 81 = .ok (.iconst 2, 1) := by decide +kernel
theorem dX7_turn_82 : decode cX7_turn 82 = .ok (.dup2, 1) := by decide +kernel
theorem dX7_turn_83 : decode cX7_turn 83 = .ok (.iaload, 1) := by decide +kernel
theorem dX7_turn_84 : decode cX7_turn 84 = .ok (.iconst 1, 1) := by decide +kernel
theorem dX7_turn_85 : decode cX7_turn 85 = .ok (.iadd, 1) := by decide +kernel
theorem dX7_turn_86 : decode cX7_turn 86 = .ok (.iastore, 1) := by decide +kernel
theorem dX7_turn_87 : decode cX7_turn 87 = .ok (.aload_n 0, 1) := by decide +kernel
theorem dX7_turn_88 : decode cX7_turn 88 = .ok (.getfield 7, 3) := by decide +kernel
theorem dX7_turn_91 : decode cX7_turn 91 = .ok (.iconst 3, 1) := by decide +kernel
theorem dX7_turn_92 : decode cX7_turn 92 = .ok (.iconst 0, 1) := by decide +kernel
theorem dX7_turn_93 : decode cX7_turn 93 = .ok (.iastore, 1) := by decide +kernel
theorem dX7_turn_94 : decode cX7_turn 94 = .ok (.aload_n 0, 1) := by decide +kernel
theorem dX7_turn_95 : decode cX7_turn 95 = .ok (.getfield 7, 3) := by decide +kernel
theorem dX7_turn_98 : decode cX7_turn 98 = .ok (.iconst 4, 1) := by decide +kernel
theorem dX7_turn_99 : decode cX7_turn 99 = .ok (.iconst 0, 1) := by decide +kernel
theorem dX7_turn_100 : decode cX7_turn 100 = .ok (.iastore, 1) := by decide +kernel
theorem dX7_turn_101 : decode cX7_turn 101 = .ok (.aload_n 0, 1) := by decide +kernel
theorem dX7_turn_102 : decode cX7_turn 102 = .ok (.aload_n 0, 1) := by decide +kernel
theorem dX7_turn_103 : decode cX7_turn 103 = .ok (.getfield 7, 3) := by decide +kernel
theorem dX7_turn_106 : decode cX7_turn 106 = .ok (.iconst 2, 1) := by decide +kernel
theorem dX7_turn_107 : decode cX7_turn 107 = .ok (.iaload, 1) := by decide +kernel
theorem dX7_turn_108 : decode cX7_turn 108 = .ok (.invokevirtual 50, 3) := by decide +kernel
theorem dX7_turn_111 : decode cX7_turn 111 = .ok (.ireturn, 1) := by decide +kernel
theorem dX7_noTurns_0 : decode cX7_noTurns 0 = .ok (.aload_n 0, 1) := by decide +kernel
theorem dX7_noTurns_1 : decode cX7_noTurns 1 = .ok (.invokevirtual 47, 3) := by decide +kernel
theorem dX7_noTurns_4 : decode cX7_noTurns 4 = .ok (.aload_n 0, 1) := by decide +kernel
theorem dX7_noTurns_5 : decode cX7_noTurns 5 = .ok (.getfield 7, 3) := by decide +kernel
theorem dX7_noTurns_8 : decode cX7_noTurns 8 = .ok (.iconst 2, 1) := by decide +kernel
theorem dX7_noTurns_9 : decode cX7_noTurns 9 = .ok (.iaload, 1) := by decide +kernel
theorem dX7_noTurns_10 : decode cX7_noTurns 10 = .ok (.istore_n 1, 1) := by decide +kernel
theorem dX7_noTurns_11 : decode cX7_noTurns 11 = .ok (.aload_n 0, 1) := by decide +kernel
theorem dX7_noTurns_12 : decode cX7_noTurns 12 = .ok (.getfield 7, 3) := by decide +kernel
theorem dX7_noTurns_15 : decode cX7_noTurns 15 = .ok (.iconst 2, 1) := by decide +kernel
theorem dX7_noTurns_16 : decode cX7_noTurns 16 = .ok (.iconst 0, 1) := by decide +kernel
theorem dX7_noTurns_17 : decode cX7_noTurns 17 = .ok (.iastore, 1) := by decide +kernel
theorem dX7_noTurns_18 : decode cX7_noTurns 18 = .ok (.aload_n 0, 1) := by decide +kernel
theorem dX7_noTurns_19 : decode cX7_noTurns 19 = .ok (.getfield 7, 3) := by decide +kernel
theorem dX7_noTurns_22 : decode cX7_noTurns 22 = .ok (.iconst 3, 1) := by decide +kernel
theorem dX7_noTurns_23 : decode cX7_noTurns 23 = .ok (.iconst 0, 1) := by decide +kernel
theorem dX7_noTurns_24 : decode cX7_noTurns 24 = .ok (.iastore, 1) := by decide +kernel
theorem dX7_noTurns_25 : decode cX7_noTurns 25 = .ok (.aload_n 0, 1) := by decide +kernel
theorem dX7_noTurns_26 : decode cX7_noTurns 26 = .ok (.getfield 7, 3) := by decide +kernel
theorem dX7_noTurns_29 : decode cX7_noTurns 29 = .ok (.iconst 4, 1) := by decide +kernel
theorem dX7_noTurns_30 : decode cX7_noTurns 30 = .ok (.iconst 0, 1) := by decide +kernel
theorem dX7_noTurns_31 : decode cX7_noTurns 31 = .ok (.iastore, 1) := by decide +kernel
theorem dX7_noTurns_32 : decode cX7_noTurns 32 = .ok (.aload_n 0, 1) := by decide +kernel
theorem dX7_noTurns_33 : decode cX7_noTurns 33 = .ok (.iload_n 1, 1) := by decide +kernel
theorem dX7_noTurns_34 : decode cX7_noTurns 34 = .ok (.invokevirtual 50, 3) := by decide +kernel
theorem dX7_noTurns_37 : decode cX7_noTurns 37 = .ok (.ireturn, 1) := by decide +kernel
theorem dX7_isBelow_0 : decode cX7_isBelow 0 = .ok (.iload_n 1, 1) := by decide +kernel
theorem dX7_isBelow_1 : decode cX7_isBelow 1 = .ok (.istore 4, 2) := by decide +kernel
theorem dX7_isBelow_3 : decode cX7_isBelow 3 = .ok (.iload 4, 2) := by decide +kernel
theorem dX7_isBelow_5 : decode cX7_isBelow 5 = .ok (.iload_n 2, 1) := by decide +kernel
