theorem dX6_tend_37 : decode cX6_tend 37 = .ok (.ifCond .ne 22, 3) := by decide +kernel
theorem dX6_tend_40 : decode cX6_tend 40 = .ok (.iload_n 1, 1) := by decide +kernel
theorem dX6_tend_41 : decode cX6_tend 41 = .ok (.aload_n 0, 1) := by decide +kernel
theorem dX6_tend_42 : decode cX6_tend 42 = .ok (.getfield 12, 3) := by decide +kernel
theorem dX6_tend_45 : decode cX6_tend 45 = .ok (.getfield 33, 3) := by decide +kernel
theorem dX6_tend_48 : decode cX6_tend 48 = .ok (.getfield 75, 3) := by decide +kernel
theorem dX6_tend_51 : decode cX6_tend 51 = .ok (.iload_n 2, 1) := by decide +kernel
theorem dX6_tend_52 : decode cX6_tend 52 = .ok (.iaload, 1) := by decide +kernel
theorem dX6_tend_53 : decode cX6_tend 53 = .ok (.invokestatic 79, 3) := by decide +kernel
theorem dX6_tend_56 : decode cX6_tend 56 = .ok (.ifCond .ne 6, 3) := by decide +kernel
theorem dX6_tend_59 : decode cX6_tend 59 = .ok (.ldc 83, 2) := by decide +kernel
theorem dX6_tend_61 : decode cX6_tend 61 = .ok (.ireturn, 1) := by decide +kernel
theorem dX6_tend_62 : decode cX6_tend 62 = .ok (.aload_n 0, 1) := by decide +kernel
theorem dX6_tend_63 : decode cX6_tend 63 = .ok (.getfield 12, 3) := by decide +kernel
theorem dX6_tend_66 : decode cX6_tend 66 = .ok (.getfield 33, 3) := by decide +kernel
theorem dX6_tend_69 : decode cX6_tend 69 = .ok (.iload_n 1, 1) := by decide +kernel
theorem dX6_tend_70 : decode cX6_tend 70 = .ok (.invokevirtual 84, 3) := by decide +kernel
theorem dX6_tend_73 : decode cX6_tend 73 = .ok (.iconst 2, 1) := by decide +kernel
theorem dX6_tend_74 : decode cX6_tend 74 = .ok (.if_icmp .lt 6, 3) := by decide +kernel
theorem dX6_tend_77 : decode cX6_tend 77 = .ok (.ldc 52, 2) := by decide +kernel
theorem dX6_tend_79 : decode cX6_tend 79 = .ok (.ireturn, 1) := by decide +kernel
theorem dX6_tend_80 : decode cX6_tend 80 = .ok (.aload_n 0, 1) := by decide +kernel
theorem dX6_tend_81 : decode cX6_tend 81 = .ok (.getfield 22, 3) := by decide +kernel
theorem dX6_tend_84 : decode cX6_tend 84 = .ok (.aload_n 0, 1) := by decide +kernel
theorem dX6_tend_85 : decode cX6_tend 85 = .ok (.getfield 12, 3) := by decide +kernel
theorem dX6_tend_88 : decode cX6_tend 88 = .ok (.invokevirtual 53, 3) := by decide +kernel
theorem dX6_tend_91 : decode cX6_tend 91 = .ok (.aload_n 0, 1) := by decide +kernel
theorem dX6_tend_92 : decode cX6_tend 92 = .ok (.getfield 12, 3) := by decide +kernel
theorem dX6_tend_95 : decode cX6_tend 95 = .ok (.getfield 33, 3) := by decide +kernel
theorem dX6_tend_98 : decode cX6_tend 98 = .ok (.getfield 88, 3) := by decide +kernel
theorem dX6_tend_101 : decode cX6_tend 101 = .ok (.iload_n 2, 1) := by decide +kernel
theorem dX6_tend_102 : decode cX6_tend 102 = .ok (.iload_n 1, 1) := by decide +kernel
theorem dX6_tend_103 : decode cX6_tend 103 = .ok (.iastore, 1) := by decide +kernel
theorem dX6_tend_104 : decode cX6_tend 104 = .ok (.aload_n 0, 1) := by decide +kernel
theorem dX6_tend_105 : decode cX6_tend 105 = .ok (.getfield 12, 3) := by decide +kernel
theorem dX6_tend_108 : decode cX6_tend 108 = .ok (.getfield 33, 3) := by decide +kernel
theorem dX6_tend_111 : decode cX6_tend 111 = .ok (.iload_n 1, 1) := by decide +kernel
theorem dX6_tend_112 : decode cX6_tend 112 = .ok (.invokevirtual 84, 3) := by decide +kernel
theorem dX6_tend_115 : decode cX6_tend 115 = .ok (.ireturn, 1) := by decide +kernel
theorem dX6_open_0 : decode cX6_open 0 = .ok (.aload_n 0, 1) := by decide +kernel
theorem dX6_open_1 : decode cX6_open 1 = .ok (.getfield 12, 3) := by decide +kernel
theorem dX6_open_4 : decode cX6_open 4 = .ok (.getfield 33, 3) := by decide +kernel
theorem dX6_open_7 : decode cX6_open 7 = .ok (.iload_n 1, 1) := by decide +kernel
theorem dX6_open_8 : decode cX6_open 8 = .ok (.invokevirtual 69, 3) := by decide +kernel
theorem dX6_open_11 : decode cX6_open 11 = .ok (.ifCond .ne 6, 3) := by decide +kernel
theorem dX6_open_14 : decode cX6_open 14 = .ok (.ldc 47, 2) := by decide +kernel
theorem dX6_open_16 : decode cX6_open 16 = .ok (.ireturn, 1) := by decide +kernel
theorem dX6_open_17 : decode cX6_open 17 = .ok (.aload_n 0, 1) := by decide +kernel
theorem dX6_open_18 : decode cX6_open 18 = .ok (.getfield 12, 3) := by decide +kernel
theorem dX6_open_21 : decode cX6_open 21 = .ok (.getfield 33, 3) := by decide +kernel
theorem dX6_open_24 : decode cX6_open 24 = .ok (.iload_n 1, 1) := by decide +kernel
theorem dX6_open_25 : decode cX6_open 25 = .ok (.invokevirtual 91, 3) := by decide +kernel
theorem dX6_open_28 : decode cX6_open 28 = .ok (.ifCond .ne 6, 3) := by decide +kernel
theorem dX6_open_31 : decode cX6_open 31 = .ok (.ldc 83, 2) := by decide +kernel
theorem dX6_open_33 : decode cX6_open 33 = .ok (.ireturn, 1) := by decide +kernel
theorem dX6_open_34 : decode cX6_open 34 = .ok (.aload_n 0, 1) := by decide +kernel
theorem dX6_open_35 : decode cX6_open 35 = .ok (.getfield 22, 3) := by decide +kernel
theorem dX6_open_38 : decode cX6_open 38 = .ok (.aload_n 0, 1) := by decide +kernel
theorem dX6_open_39 : decode cX6_open 39 = .ok (.getfield 12, 3) := by decide +kernel
theorem dX6_open_42 : decode cX6_open 42 = .ok (.invokevirtual 53, 3) := by decide +kernel
theorem dX6_open_45 : decode cX6_open 45 = .ok (.aload_n 0, 1) := by decide +kernel
theorem dX6_open_46 : decode cX6_open 46 = .ok (.getfield 12, 3) := by decide +kernel
theorem dX6_open_49 : decode cX6_open 49 = .ok (.getfield 33, 3) := by decide +kernel
theorem dX6_open_52 : decode cX6_open 52 = .ok (.iload_n 1, 1) := by decide +kernel
theorem dX6_open_53 : decode cX6_open 53 = .ok (.invokevirtual 94, 3) := by decide +kernel
theorem dX6_open_56 : decode cX6_open 56 = .ok (.ireturn, 1) := by decide +kernel
theorem dX6_call_0 : decode cX6_call 0 = .ok (.aload_n 0, 1) := by decide +kernel
theorem dX6_call_1 : decode cX6_call 1 = .ok (.getfield 12, 3) := by decide +kernel
theorem dX6_call_4 : decode cX6_call 4 = .ok (.getfield 61, 3) := by decide +kernel
theorem dX6_call_7 : decode cX6_call 7 = .ok (.iload_n 1, 1) := by decide +kernel
theorem dX6_call_8 : decode cX6_call 8 = .ok (.invokevirtual 100, 3) := by decide +kernel
theorem dX6_call_11 : decode cX6_call 11 = .ok (.ifCond .ne 6, 3) := by decide +kernel
theorem dX6_call_14 : decode cX6_call 14 = .ok (.ldc 47, 2) := by decide +kernel
theorem dX6_call_16 : decode cX6_call 16 = .ok (.ireturn, 1) := by decide +kernel
theorem dX6_call_17 : decode cX6_call 17 = .ok (.aload_n 0, 1) := by decide +kernel
theorem dX6_call_18 : decode cX6_call 18 = .ok (.getfield 12, 3) := by decide +kernel
theorem dX6_call_21 : decode cX6_call 21 = .ok (.getfield 61, 3) := by decide +kernel
theorem dX6_call_24 : decode cX6_call 24 = .ok (.iload_n 1, 1) := by decide +kernel
theorem dX6_call_25 : decode cX6_call 25 = .ok (.invokevirtual 101, 3) := by decide +kernel
theorem dX6_call_28 : decode cX6_call 28 = .ok (.ifCond .ne 6, 3) := by decide +kernel
theorem dX6_call_31 : decode cX6_call 31 = .ok (.ldc 83, 2) := by decide +kernel
theorem dX6_call_33 : decode cX6_call 33 = .ok (.ireturn, 1) := by decide +kernel
theorem dX6_call_34 : decode cX6_call 34 = .ok (.aload_n 0, 1) := by decide +kernel
theorem dX6_call_35 : decode cX6_call 35 = .ok (.getfield 22, 3) := by decide +kernel
theorem dX6_call_38 : decode cX6_call 38 = .ok (.aload_n 0, 1) := by decide +kernel
theorem dX6_call_39 : decode cX6_call 39 = .ok (.getfield 12, 3) := by decide +kernel
theorem dX6_call_42 : decode cX6_call 42 = .ok (.invokevirtual 53, 3) := by decide +kernel
theorem dX6_call_45 : decode cX6_call 45 = .ok (.aload_n 0, 1) := by decide +kernel
theorem dX6_call_46 : decode cX6_call 46 = .ok (.getfield 12, 3) := by decide +kernel
theorem dX6_call_49 : decode cX6_call 49 = .ok (.getfield 61, 3) := by decide +kernel
theorem dX6_call_52 : decode cX6_call 52 = .ok (.iload_n 1, 1) := by decide +kernel
theorem dX6_call_53 : decode cX6_call 53 = .ok (.invokevirtual 104, 3) := by decide +kernel
theorem dX6_call_56 : decode cX6_call 56 = .ok (.ireturn, 1) := by decide +kernel
theorem dX6_turn_0 : decode cX6_turn 0 = .ok (.aload_n 0, 1) := by decide +kernel
theorem dX6_turn_1 : decode cX6_turn 1 = .ok (.getfield 12, 3) := by decide +kernel
theorem dX6_turn_4 : decode cX6_turn 4 = .ok (.getfield 33, 3) := by decide +kernel
theorem dX6_turn_7 : decode cX6_turn 7 = .ok (.iload_n 1, 1) := by decide +kernel
theorem dX6_turn_8 : decode cX6_turn 8 = .ok (.invokevirtual 107, 3) := by decide +kernel
theorem dX6_turn_11 : decode cX6_turn 11 = .ok (.ifCond .eq 13, 3) := by decide +kernel
theorem dX6_turn_14 : decode cX6_turn 14 = .ok (.iload_n 2, 1) := by decide +kernel
theorem dX6_turn_15 : decode cX6_turn 15 = .ok (.iconst 1, 1) := by decide +kernel
theorem dX6_turn_16 : decode cX6_turn 16 = .ok (.bipush 20, 2) := by decide +kernel
theorem dX6_turn_18 : decode cX6_turn 18 = .ok (.invokestatic 43, 3) := by decide +kernel
theorem dX6_turn_21 : decode cX6_turn 21 = .ok (.ifCond .eq 6, 3) := by decide +kernel
theorem dX6_turn_24 : decode cX6_turn 24 = .ok (.ldc 47, 2) := by decide +kernel
theorem dX6_turn_26 : decode cX6_turn 26 = .ok (.ireturn, 1) := by decide +kernel
theorem dX6_turn_27 : decode cX6_turn 27 = .ok (.aload_n 0, 1) := by decide +kernel
theorem dX6_turn_28 : decode cX6_turn 28 = .ok (.getfield 12, 3) := by decide +kernel
theorem dX6_turn_31 : decode cX6_turn 31 = .ok (.getfield 110, 3) := by decide +kernel
theorem dX6_turn_34 : decode cX6_turn 34 = .ok (.getfield 114, 3) := by decide +kernel
theorem dX6_turn_37 : decode cX6_turn 37 = .ok (.bipush 8, 2) := by decide +kernel
theorem dX6_turn_39 : decode cX6_turn 39 = .ok (.if_icmp .lt 6, 3) := by decide +kernel
theorem dX6_turn_42 : decode cX6_turn 42 = .ok (.ldc 52, 2) := by decide +kernel
theorem dX6_turn_44 : decode cX6_turn 44 = .ok (.ireturn, 1) := by decide +kernel
theorem dX6_turn_45 : decode cX6_turn 45 = .ok (.aload_n 0, 1) := by decide +kernel
theorem dX6_turn_46 : decode cX6_turn 46 = .ok (.getfield 22, 3) := by decide +kernel
theorem dX6_turn_49 : decode cX6_turn 49 = .ok (.aload_n 0, 1) := by decide +kernel
theorem dX6_turn_50 : decode cX6_turn 50 = .ok (.getfield 12, 3) := by decide +kernel
theorem dX6_turn_53 : decode cX6_turn 53 = .ok (.invokevirtual 53, 3) := by decide +kernel
theorem dX6_turn_56 : decode cX6_turn 56 = .ok (.aload_n 0, 1) := by decide +kernel
theorem dX6_turn_57 : decode cX6_turn 57 = .ok (.getfield 12, 3) := by decide +kernel
theorem dX6_turn_60 : decode cX6_turn 60 = .ok (.getfield 110, 3) := by decide +kernel
theorem dX6_turn_63 : decode cX6_turn 63 = .ok (.iload_n 1, 1) := by decide +kernel
theorem dX6_turn_64 : decode cX6_turn 64 = .ok (.iload_n 2, 1) := by decide +kernel
theorem dX6_turn_65 : decode cX6_turn 65 = .ok (.invokevirtual 117, 3) := by decide +kernel
theorem dX6_turn_68 : decode cX6_turn 68 = .ok (.ireturn, 1) := by decide +kernel
theorem dX6_noTurns_0 : decode cX6_noTurns 0 = .ok (.aload_n 0, 1) := by decide +kernel
theorem dX6_noTurns_1 : decode cX6_noTurns 1 = .ok (.getfield 22, 3) := by decide +kernel
theorem dX6_noTurns_4 : decode cX6_noTurns 4 = .ok (.aload_n 0, 1) := by decide +kernel
theorem dX6_noTurns_5 : decode cX6_noTurns 5 = .ok (.getfield 12, 3) := by decide +kernel
theorem dX6_noTurns_8 : decode cX6_noTurns 8 = .ok (.invokevirtual 53, 3) := by decide +kernel
theorem dX6_noTurns_11 : decode cX6_noTurns 11 = .ok (.aload_n 0, 1) := by decide +kernel
theorem dX6_noTurns_12 : decode cX6_noTurns 12 = .ok (.getfield 12, 3) := by decide +kernel
theorem dX6_noTurns_15 : decode cX6_noTurns 15 = .ok (.getfield 110, 3) := by decide +kernel
theorem dX6_noTurns_18 : decode cX6_noTurns 18 = .ok (.invokevirtual 120, 3) := by decide +kernel
theorem dX6_noTurns_21 : decode cX6_noTurns 21 = .ok (.ireturn, 1) := by decide +kernel
theorem dX6_hour_0 : decode cX6_hour 0 = .ok (.iload_n 1, 1) := by decide +kernel
theorem dX6_hour_1 : decode cX6_hour 1 = .ok (.iconst 0, 1) := by decide +kernel
theorem dX6_hour_2 : decode cX6_hour 2 = .ok (.sipush 999, 3) := by decide +kernel
theorem dX6_hour_5 : decode cX6_hour 5 = .ok (.invokestatic 43, 3) := by decide +kernel
theorem dX6_hour_8 : decode cX6_hour 8 = .ok (.ifCond .eq 6, 3) := by decide +kernel
theorem dX6_hour_11 : decode cX6_hour 11 = .ok (.ldc 47, 2) := by decide +kernel
theorem dX6_hour_13 : decode cX6_hour 13 = .ok (.ireturn, 1) := by decide +kernel
theorem dX6_hour_14 : decode cX6_hour 14 = .ok (.aload_n 0, 1) := by decide +kernel
theorem dX6_hour_15 : decode cX6_hour 15 = .ok (.getfield 12, 3) := by decide +kernel
theorem dX6_hour_18 : decode cX6_hour 18 = .ok (.iconst 1, 1) := by decide +kernel
theorem dX6_hour_19 : decode cX6_hour 19 = .ok (.invokevirtual 124, 3) := by decide +kernel
theorem dX6_hour_22 : decode cX6_hour 22 = .ok (.ifCond .ne 6, 3) := by decide +kernel
theorem dX6_hour_25 : decode cX6_hour 25 = .ok (.ldc 52, 2) := by decide +kernel
theorem dX6_hour_27 : decode cX6_hour 27 = .ok (.ireturn, 1) := by decide +kernel
theorem dX6_hour_28 : decode cX6_hour 28 = .ok (.aload_n 0, 1) := by decide +kernel
theorem dX6_hour_29 : decode cX6_hour 29 = .ok (.getfield 22, 3) := by decide +kernel
theorem dX6_hour_32 : decode cX6_hour 32 = .ok (.aload_n 0, 1) := by decide +kernel
theorem dX6_hour_33 : decode cX6_hour 33 = .ok (.getfield 12, 3) := by decide +kernel
theorem dX6_hour_36 : decode cX6_hour 36 = .ok (.invokevirtual 53, 3) := by decide +kernel
theorem dX6_hour_39 : decode cX6_hour 39 = .ok (.aload_n 0, 1) := by decide +kernel
theorem dX6_hour_40 : decode cX6_hour 40 = .ok (.getfield 12, 3) := by decide +kernel
theorem dX6_hour_43 : decode cX6_hour 43 = .ok (.iload_n 1, 1) := by decide +kernel
theorem dX6_hour_44 : decode cX6_hour 44 = .ok (.invokevirtual 127, 3) := by decide +kernel
theorem dX6_hour_47 : decode cX6_hour 47 = .ok (.ireturn, 1) := by decide +kernel
theorem dX6_run_0 : decode cX6_run 0 = .ok (.iload_n 1, 1) := by decide +kernel
theorem dX6_run_1 : decode cX6_run 1 = .ok (.iconst 1, 1) := by decide +kernel
theorem dX6_run_2 : decode cX6_run 2 = .ok (.bipush 100, 2) := by decide +kernel
theorem dX6_run_4 : decode cX6_run 4 = .ok (.invokestatic 43, 3) := by decide +kernel
theorem dX6_run_7 : decode cX6_run 7 = .ok (.ifCond .ne 14, 3) := by decide +kernel
theorem dX6_run_10 : decode cX6_run 10 = .ok (.iload_n 2, 1) := by decide +kernel
theorem dX6_run_11 : decode cX6_run 11 = .ok (.iconst 0, 1) := by decide +kernel
theorem dX6_run_12 : decode cX6_run 12 = .ok (.sipush 999, 3) := by decide +kernel
theorem dX6_run_15 : decode cX6_run 15 = .ok (.invokestatic 43, 3) := by decide +kernel
theorem dX6_run_18 : decode cX6_run 18 = .ok (.ifCond .eq 6, 3) := by decide +kernel
theorem dX6_run_21 : decode cX6_run 21 = .ok (.ldc 47, 2) := by decide +kernel
theorem dX6_run_23 : decode cX6_run 23 = .ok (.ireturn, 1) := by decide +kernel
theorem dX6_run_24 : decode cX6_run 24 = .ok (.aload_n 0, 1) := by decide +kernel
theorem dX6_run_25 : decode cX6_run 25 = .ok (.getfield 12, 3) := by decide +kernel
theorem dX6_run_28 : decode cX6_run 28 = .ok (.iload_n 1, 1) := by decide +kernel
theorem dX6_run_29 : decode cX6_run 29 = .ok (.invokevirtual 124, 3) := by decide +kernel
theorem dX6_run_32 : decode cX6_run 32 = .ok (.ifCond .ne 6, 3) := by decide +kernel
theorem dX6_run_35 : decode cX6_run 35 = .ok (.ldc 52, 2) := by decide +kernel
theorem dX6_run_37 : decode cX6_run 37 = .ok (.ireturn, 1) := by decide +kernel
theorem dX6_run_38 : decode cX6_run 38 = .ok (.aload_n 0, 1) := by decide +kernel
theorem dX6_run_39 : decode cX6_run 39 = .ok (.getfield 22, 3) := by decide +kernel
theorem dX6_run_42 : decode cX6_run 42 = .ok (.aload_n 0, 1) := by decide +kernel
theorem dX6_run_43 : decode cX6_run 43 = .ok (.getfield 12, 3) := by decide +kernel
theorem dX6_run_46 : decode cX6_run 46 = .ok (.invokevirtual 53, 3) := by decide +kernel
theorem dX6_run_49 : decode cX6_run 49 = .ok (.aload_n 0, 1) := by decide +kernel
theorem dX6_run_50 : decode cX6_run 50 = .ok (.getfield 12, 3) := by decide +kernel
theorem dX6_run_53 : decode cX6_run 53 = .ok (.iload_n 1, 1) := by decide +kernel
theorem dX6_run_54 : decode cX6_run 54 = .ok (.iload_n 2, 1) := by decide +kernel
theorem dX6_run_55 : decode cX6_run 55 = .ok (.invokevirtual 130, 3) := by decide +kernel
theorem dX6_run_58 : decode cX6_run 58 = .ok (.ireturn, 1) := by decide +kernel
theorem dX6_canalOf_0 : decode cX6_canalOf 0 = .ok (.aload_n 0, 1) := by decide +kernel
theorem dX6_canalOf_1 : decode cX6_canalOf 1 = .ok (.getfield 12, 3) := by decide +kernel
theorem dX6_canalOf_4 : decode cX6_canalOf 4 = .ok (.getfield 33, 3) := by decide +kernel
theorem dX6_canalOf_7 : decode cX6_canalOf 7 = .ok (.astore_n 3, 1) := by decide +kernel
theorem dX6_canalOf_8 : decode cX6_canalOf 8 = .ok (.aload_n 3, 1) := by decide +kernel
theorem dX6_canalOf_9 : decode cX6_canalOf 9 = .ok (.iload_n 1, 1) := by decide +kernel
theorem dX6_canalOf_10 : decode cX6_canalOf 10 = .ok (.invokevirtual 37, 3) := by decide +kernel
theorem dX6_canalOf_13 : decode cX6_canalOf 13 = .ok (.ifCond .ne 6, 3) := by decide +kernel
theorem dX6_canalOf_16 : decode cX6_canalOf 16 = .ok (.ldc 47, 2) := by decide +kernel
theorem dX6_canalOf_18 : decode cX6_canalOf 18 = .ok (.ireturn, 1) := by decide +kernel
theorem dX6_canalOf_19 : decode cX6_canalOf 19 = .ok (.iload_n 2, 1) := by decide +kernel
theorem dX6_canalOf_20 : decode cX6_canalOf 20 = .ok (.tableswitch 167 0 9 #[56, 72, 88, 95, 102, 120, 140, 146, 153, 160], 56) := by decide +kernel
theorem dX6_canalOf_76 : decode cX6_canalOf 76 = .ok (.iload_n 1, 1) := by decide +kernel
theorem dX6_canalOf_77 : decode cX6_canalOf 77 = .ok (.ifCond .ne 8, 3) := by decide +kernel
theorem dX6_canalOf_80 : decode cX6_canalOf 80 = .ok (.ldc 133, 2) := by decide +kernel
theorem dX6_canalOf_82 : decode cX6_canalOf 82 = .ok (.goto 9, 3) := by decide +kernel
theorem dX6_canalOf_85 : decode cX6_canalOf 85 = .ok (.aload_n 3, 1) := by decide +kernel
theorem dX6_canalOf_86 : decode cX6_canalOf 86 = .ok (.getfield 134, 3) := by decide +kernel
theorem dX6_canalOf_89 : decode cX6_canalOf 89 = .ok (.iload_n 1, 1) := by decide +kernel
theorem dX6_canalOf_90 : decode cX6_canalOf 90 = .ok (.iaload, 1) := by decide +kernel
theorem dX6_canalOf_91 : decode cX6_canalOf 91 = .ok (.ireturn, 1) := by decide +kernel
theorem dX6_canalOf_92 : decode cX6_canalOf 92 = .ok (.iload_n 1, 1) := by decide +kernel
theorem dX6_canalOf_93 : decode cX6_canalOf 93 = .ok (.ifCond .ne 8, 3) := by decide +kernel
theorem dX6_canalOf_96 : decode cX6_canalOf 96 = .ok (.ldc 133, 2) := by decide +kernel
theorem dX6_canalOf_98 : decode cX6_canalOf 98 = .ok (.goto 9, 3) := by decide +kernel
theorem dX6_canalOf_101 : decode cX6_canalOf 101 = .ok (.aload_n 3, 1) := by decide +kernel
theorem dX6_canalOf_102 : decode cX6_canalOf 102 = .ok (.getfield 75, 3) := by decide +kernel
theorem dX6_canalOf_105 : decode cX6_canalOf 105 = .ok (.iload_n 1, 1) := by decide +kernel
theorem dX6_canalOf_106 : decode cX6_canalOf 106 = .ok (.iaload, 1) := by decide +kernel
theorem dX6_canalOf_107 : decode cX6_canalOf 107 = .ok (.ireturn, 1) := by decide +kernel
theorem dX6_canalOf_108 : decode cX6_canalOf 108 = .ok (.aload_n 3, 1) := by decide +kernel
theorem dX6_canalOf_109 : decode cX6_canalOf 109 = .ok (.getfield 137, 3) := by decide +kernel
theorem dX6_canalOf_112 : decode cX6_canalOf 112 = .ok (.iload_n 1, 1) := by decide +kernel
theorem dX6_canalOf_113 : decode cX6_canalOf 113 = .ok (.iaload, 1) := by decide +kernel
theorem dX6_canalOf_114 : decode cX6_canalOf 114 = .ok (.ireturn, 1) := by decide +kernel
theorem dX6_canalOf_115 : decode cX6_canalOf 115 = .ok (.aload_n 3, 1) := by decide +kernel
theorem dX6_canalOf_116 : decode cX6_canalOf 116 = .ok (.getfield 140, 3) := by decide +kernel
theorem dX6_canalOf_119 : decode cX6_canalOf 119 = .ok (.iload_n 1, 1) := by decide +kernel
theorem dX6_canalOf_120 : decode cX6_canalOf 120 = .ok (.iaload, 1) := by decide +kernel
theorem dX6_canalOf_121 : decode cX6_canalOf 121 = .ok (.ireturn, 1) := by decide +kernel
theorem dX6_canalOf_122 : decode cX6_canalOf 122 = .ok (.iload_n 1, 1) := by decide +kernel
theorem dX6_canalOf_123 : decode cX6_canalOf 123 = .ok (.ifCond .ne 8, 3) := by decide +kernel
theorem dX6_canalOf_126 : decode cX6_canalOf 126 = .ok (.ldc 133, 2) := by decide +kernel
theorem dX6_canalOf_128 : decode cX6_canalOf 128 = .ok (.goto 11, 3) := by decide +kernel
theorem dX6_canalOf_131 : decode cX6_canalOf 131 = .ok (.aload_n 3, 1) := by decide +kernel
theorem dX6_canalOf_132 : decode cX6_canalOf 132 = .ok (.iload_n 1, 1) := by decide +kernel
theorem dX6_canalOf_133 : decode cX6_canalOf 133 = .ok (.invokevirtual 143, 3) := by decide +kernel
theorem dX6_canalOf_136 : decode cX6_canalOf 136 = .ok (.invokestatic 146, 3) := by decide +kernel
theorem dX6_canalOf_139 : decode cX6_canalOf 139 = .ok (.ireturn, 1) := by decide +kernel
theorem dX6_canalOf_140 : decode cX6_canalOf 140 = .ok (.aload_n 3, 1) := by decide +kernel
theorem dX6_canalOf_141 : decode cX6_canalOf 141 = .ok (.iload_n 1, 1) := by decide +kernel
theorem dX6_canalOf_142 : decode cX6_canalOf 142 = .ok (.invokevirtual 72, 3) := by decide +kernel
theorem dX6_canalOf_145 : decode cX6_canalOf 145 = .ok (.ifCond .eq 12, 3) := by decide +kernel
theorem dX6_canalOf_148 : decode cX6_canalOf 148 = .ok (.aload_n 3, 1) := by decide +kernel
theorem dX6_canalOf_149 : decode cX6_canalOf 149 = .ok (.getfield 88, 3) := by decide +kernel
theorem dX6_canalOf_152 : decode cX6_canalOf 152 = .ok (.iload_n 1, 1) := by decide +kernel
theorem dX6_canalOf_153 : decode cX6_canalOf 153 = .ok (.iaload, 1) := by decide +kernel
theorem dX6_canalOf_154 : decode cX6_canalOf 154 = .ok (.goto 5, 3) := by decide +kernel
theorem dX6_canalOf_157 : decode cX6_canalOf 157 = .ok (.ldc 133, 2) := by decide +kernel
theorem dX6_canalOf_159 : decode cX6_canalOf 159 = .ok (.ireturn, 1) := by decide +kernel
theorem dX6_canalOf_160 : decode cX6_canalOf 160 = .ok (.aload_n 3, 1) := by decide +kernel
theorem dX6_canalOf_161 : decode cX6_canalOf 161 = .ok (.iload_n 1, 1) := by decide +kernel
theorem dX6_canalOf_162 : decode cX6_canalOf 162 = .ok (.invokevirtual 150, 3) := by decide +kernel
theorem dX6_canalOf_165 : decode cX6_canalOf 165 = .ok (.ireturn, 1) := by decide +kernel
theorem dX6_canalOf_166 : decode cX6_canalOf 166 = .ok (.aload_n 3, 1) := by decide +kernel
theorem dX6_canalOf_167 : decode cX6_canalOf 167 = .ok (.getfield 153, 3) := by decide +kernel
theorem dX6_canalOf_170 : decode cX6_canalOf 170 = .ok (.iload_n 1, 1) := by decide +kernel
theorem dX6_canalOf_171 : decode cX6_canalOf 171 = .ok (.iaload, 1) := by decide +kernel
theorem dX6_canalOf_172 : decode cX6_canalOf 172 = .ok (.ireturn, 1) := by decide +kernel
theorem dX6_canalOf_173 : decode cX6_canalOf 173 = .ok (.aload_n 3, 1) := by decide +kernel
theorem dX6_canalOf_174 : decode cX6_canalOf 174 = .ok (.getfield 156, 3) := by decide +kernel
theorem dX6_canalOf_177 : decode cX6_canalOf 177 = .ok (.iload_n 1, 1) := by decide +kernel
theorem dX6_canalOf_178 : decode cX6_canalOf 178 = .ok (.iaload, 1) := by decide +kernel
theorem dX6_canalOf_179 : decode cX6_canalOf 179 = .ok (.ireturn, 1) := by decide +kernel
theorem dX6_canalOf_180 : decode cX6_canalOf 180 = .ok (.aload_n 3, 1) := by decide +kernel
theorem dX6_canalOf_181 : decode cX6_canalOf 181 = .ok (.getfield 159, 3) := by decide +kernel
theorem dX6_canalOf_184 : decode cX6_canalOf 184 = .ok (.iload_n 1, 1) := by decide +kernel
theorem dX6_canalOf_185 : decode cX6_canalOf 185 = .ok (.iaload, 1) := by decide +kernel
theorem dX6_canalOf_186 : decode cX6_canalOf 186 = .ok (.ireturn, 1) := by decide +kernel
theorem dX6_canalOf_187 : decode cX6_canalOf 187 = .ok (.ldc 47, 2) := by decide +kernel
theorem dX6_canalOf_189 : decode cX6_canalOf 189 = .ok (.ireturn, 1) := by decide +kernel
theorem dX6_fieldOf_0 : decode cX6_fieldOf 0 = .ok (.aload_n 0, 1) := by decide +kernel
theorem dX6_fieldOf_1 : decode cX6_fieldOf 1 = .ok (.getfield 12, 3) := by decide +kernel
theorem dX6_fieldOf_4 : decode cX6_fieldOf 4 = .ok (.getfield 61, 3) := by decide +kernel
theorem dX6_fieldOf_7 : decode cX6_fieldOf 7 = .ok (.astore_n 3, 1) := by decide +kernel
theorem dX6_fieldOf_8 : decode cX6_fieldOf 8 = .ok (.aload_n 3, 1) := by decide +kernel
theorem dX6_fieldOf_9 : decode cX6_fieldOf 9 = .ok (.iload_n 1, 1) := by decide +kernel
theorem dX6_fieldOf_10 : decode cX6_fieldOf 10 = .ok (.invokevirtual 100, 3) := by decide +kernel
theorem dX6_fieldOf_13 : decode cX6_fieldOf 13 = .ok (.ifCond .ne 6, 3) := by decide +kernel
theorem dX6_fieldOf_16 : decode cX6_fieldOf 16 = .ok (.ldc 47, 2) := by decide +kernel
theorem dX6_fieldOf_18 : decode cX6_fieldOf 18 = .ok (.ireturn, 1) := by decide +kernel
theorem dX6_fieldOf_19 : decode cX6_fieldOf 19 = .ok (.iload_n 2, 1) := by decide +kernel
theorem dX6_fieldOf_20 : decode cX6_fieldOf 20 = .ok (.tableswitch 131 0 7 #[48, 55, 62, 69, 76, 83, 92, 111], 48) := by decide +kernel
theorem dX6_fieldOf_68 : decode cX6_fieldOf 68 = .ok (.aload_n 3, 1) := by decide +kernel
theorem dX6_fieldOf_69 : decode cX6_fieldOf 69 = .ok (.getfield 162, 3) := by decide +kernel
theorem dX6_fieldOf_72 : decode cX6_fieldOf 72 = .ok (.iload_n 1, 1) := by decide +kernel
theorem dX6_fieldOf_73 : decode cX6_fieldOf 73 = .ok (.iaload, 1) := by decide +kernel
theorem dX6_fieldOf_74 : decode cX6_fieldOf 74 = .ok (.ireturn, 1) := by decide +kernel
theorem dX6_fieldOf_75 : decode cX6_fieldOf 75 = .ok (.aload_n 3, 1) := by decide +kernel
theorem dX6_fieldOf_76 : decode cX6_fieldOf 76 = .ok (.getfield 165, 3) := by decide +kernel
theorem dX6_fieldOf_79 : decode cX6_fieldOf 79 = .ok (.iload_n 1, 1) := by decide +kernel
theorem dX6_fieldOf_80 : decode cX6_fieldOf 80 = .ok (.iaload, 1) := by decide +kernel
theorem dX6_fieldOf_81 : decode cX6_fieldOf 81 = .ok (.ireturn, 1) := by decide +kernel
theorem dX6_fieldOf_82 : decode cX6_fieldOf 82 = .ok (.aload_n 3, 1) := by decide +kernel
theorem dX6_fieldOf_83 : decode cX6_fieldOf 83 = .ok (.getfield 168, 3) := by decide +kernel
theorem dX6_fieldOf_86 : decode cX6_fieldOf 86 = .ok (.iload_n 1, 1) := by decide +kernel
theorem dX6_fieldOf_87 : decode cX6_fieldOf 87 = .ok (.iaload, 1) := by decide +kernel
theorem dX6_fieldOf_88 : decode cX6_fieldOf 88 = .ok (.ireturn, 1) := by decide +kernel
theorem dX6_fieldOf_89 : decode cX6_fieldOf 89 = .ok (.aload_n 3, 1) := by decide +kernel
theorem dX6_fieldOf_90 : decode cX6_fieldOf 90 = .ok (.getfield 171, 3) := by decide +kernel
theorem dX6_fieldOf_93 : decode cX6_fieldOf 93 = .ok (.iload_n 1, 1) := by decide +kernel
theorem dX6_fieldOf_94 : decode cX6_fieldOf 94 = .ok (.iaload, 1) := by decide +kernel
theorem dX6_fieldOf_95 : decode cX6_fieldOf 95 = .ok (.ireturn, 1) := by decide +kernel
theorem dX6_fieldOf_96 : decode cX6_fieldOf 96 = .ok (.aload_n 3, 1) := by decide +kernel
theorem dX6_fieldOf_97 : decode cX6_fieldOf 97 = .ok (.getfield 174, 3) := by decide +kernel
theorem dX6_fieldOf_100 : decode cX6_fieldOf 100 = .ok (.iload_n 1, 1) := by decide +kernel
theorem dX6_fieldOf_101 : decode cX6_fieldOf 101 = .ok (.iaload, 1) := by decide +kernel
theorem dX6_fieldOf_102 : decode cX6_fieldOf 102 = .ok (.ireturn, 1) := by decide +kernel
theorem dX6_fieldOf_103 : decode cX6_fieldOf 103 = .ok (.aload_n 3, 1) := by decide +kernel
theorem dX6_fieldOf_104 : decode cX6_fieldOf 104 = .ok (.iload_n 1, 1) := by decide +kernel
theorem dX6_fieldOf_105 : decode cX6_fieldOf 105 = .ok (.invokevirtual 177, 3) := by decide +kernel
theorem dX6_fieldOf_108 : decode cX6_fieldOf 108 = .ok (.invokestatic 146, 3) := by decide +kernel
theorem dX6_fieldOf_111 : decode cX6_fieldOf 111 = .ok (.ireturn, 1) := by decide +kernel
theorem dX6_fieldOf_112 : decode cX6_fieldOf 112 = .ok (.aload_n 0, 1) := by decide +kernel
theorem dX6_fieldOf_113 : decode cX6_fieldOf 113 = .ok (.getfield 12, 3) := by decide +kernel
theorem dX6_fieldOf_116 : decode cX6_fieldOf 116 = .ok (.invokevirtual 180, 3) := by decide +kernel
theorem dX6_fieldOf_119 : decode cX6_fieldOf 119 = .ok (.aload_n 0, 1) := by decide +kernel
theorem dX6_fieldOf_120 : decode cX6_fieldOf 120 = .ok (.getfield 12, 3) := by decide +kernel
theorem dX6_fieldOf_123 : decode cX6_fieldOf 123 = .ok (.iload_n 1, 1) := by decide +kernel
theorem dX6_fieldOf_124 : decode cX6_fieldOf 124 = .ok (.invokevirtual 183, 3) := by decide +kernel
theorem dX6_fieldOf_127 : decode cX6_fieldOf 127 = .ok (.invokestatic 146, 3) := by decide +kernel
theorem dX6_fieldOf_130 : decode cX6_fieldOf 130 = .ok (.ireturn, 1) := by decide +kernel
theorem dX6_fieldOf_131 : decode cX6_fieldOf 131 = .ok (.aload_n 3, 1) := by decide +kernel
theorem dX6_fieldOf_132 : decode cX6_fieldOf 132 = .ok (.iload_n 1, 1) := by decide +kernel
theorem dX6_fieldOf_133 : decode cX6_fieldOf 133 = .ok (.invokevirtual 186, 3) := by decide +kernel
theorem dX6_fieldOf_136 : decode cX6_fieldOf 136 = .ok (.ifCond .eq 8, 3) := by decide +kernel
theorem dX6_fieldOf_139 : decode cX6_fieldOf 139 = .ok (.ldc 133, 2) := by decide +kernel
theorem dX6_fieldOf_141 : decode cX6_fieldOf 141 = .ok (.goto 9, 3) := by decide +kernel
theorem dX6_fieldOf_144 : decode cX6_fieldOf 144 = .ok (.aload_n 3, 1) := by decide +kernel
theorem dX6_fieldOf_145 : decode cX6_fieldOf 145 = .ok (.getfield 189, 3) := by decide +kernel
theorem dX6_fieldOf_148 : decode cX6_fieldOf 148 = .ok (.iload_n 1, 1) := by decide +kernel
theorem dX6_fieldOf_149 : decode cX6_fieldOf 149 = .ok (.iaload, 1) := by decide +kernel
theorem dX6_fieldOf_150 : decode cX6_fieldOf 150 = .ok (.ireturn, 1) := by decide +kernel
theorem dX6_fieldOf_151 : decode cX6_fieldOf 151 = .ok (.ldc 47, 2) := by decide +kernel
theorem dX6_fieldOf_153 : decode cX6_fieldOf 153 = .ok (.ireturn, 1) := by decide +kernel
theorem dX6_turnOf_0 : decode cX6_turnOf 0 = .ok (.aload_n 0, 1) := by decide +kernel
theorem dX6_turnOf_1 : decode cX6_turnOf 1 = .ok (.getfield 12, 3) := by decide +kernel
theorem dX6_turnOf_4 : decode cX6_turnOf 4 = .ok (.getfield 110, 3) := by decide +kernel
theorem dX6_turnOf_7 : decode cX6_turnOf 7 = .ok (.iload_n 1, 1) := by decide +kernel
theorem dX6_turnOf_8 : decode cX6_turnOf 8 = .ok (.invokevirtual 192, 3) := by decide +kernel
theorem dX6_turnOf_11 : decode cX6_turnOf 11 = .ok (.ifCond .ne 6, 3) := by decide +kernel
theorem dX6_turnOf_14 : decode cX6_turnOf 14 = .ok (.ldc 47, 2) := by decide +kernel
theorem dX6_turnOf_16 : decode cX6_turnOf 16 = .ok (.ireturn, 1) := by decide +kernel
theorem dX6_turnOf_17 : decode cX6_turnOf 17 = .ok (.iload_n 2, 1) := by decide +kernel
theorem dX6_turnOf_18 : decode cX6_turnOf 18 = .ok (.lookupswitch 52 #[(0, 26), (1, 39)], 26) := by decide +kernel
theorem dX6_turnOf_44 : decode cX6_turnOf 44 = .ok (.aload_n 0, 1) := by decide +kernel
theorem dX6_turnOf_45 : decode cX6_turnOf 45 = .ok (.getfield 12, 3) := by decide +kernel
theorem dX6_turnOf_48 : decode cX6_turnOf 48 = .ok (.getfield 110, 3) := by decide +kernel
theorem dX6_turnOf_51 : decode cX6_turnOf 51 = .ok (.getfield 193, 3) := by decide +kernel
theorem dX6_turnOf_54 : decode cX6_turnOf 54 = .ok (.iload_n 1, 1) := by decide +kernel
theorem dX6_turnOf_55 : decode cX6_turnOf 55 = .ok (.iaload, 1) := by decide +kernel
theorem dX6_turnOf_56 : decode cX6_turnOf 56 = .ok (.ireturn, 1) := by decide +kernel
theorem dX6_turnOf_57 : decode cX6_turnOf 57 = .ok (.aload_n 0, 1) := by decide +kernel
theorem dX6_turnOf_58 : decode cX6_turnOf 58 = .ok (.getfield 12, 3) := by decide +kernel
theorem dX6_turnOf_61 : decode cX6_turnOf 61 = .ok (.getfield 110, 3) := by decide +kernel
theorem dX6_turnOf_64 : decode cX6_turnOf 64 = .ok (.getfield 196, 3) := by decide +kernel
theorem dX6_turnOf_67 : decode cX6_turnOf 67 = .ok (.iload_n 1, 1) := by decide +kernel
theorem dX6_turnOf_68 : decode cX6_turnOf 68 = .ok (.iaload, 1) := by decide +kernel
theorem dX6_turnOf_69 : decode cX6_turnOf 69 = .ok (.ireturn, 1) := by decide +kernel
theorem dX6_turnOf_70 : decode cX6_turnOf 70 = .ok (.ldc 47, 2) := by decide +kernel
theorem dX6_turnOf_72 : decode cX6_turnOf 72 = .ok (.ireturn, 1) := by decide +kernel
theorem dX6_share_0 : decode cX6_share 0 = .ok (.iload_n 1, 1) := by decide +kernel
theorem dX6_share_1 : decode cX6_share 1 = .ok (.iconst 0, 1) := by decide +kernel
theorem dX6_share_2 : decode cX6_share 2 = .ok (.iconst 2, 1) := by decide +kernel
theorem dX6_share_3 : decode cX6_share 3 = .ok (.invokestatic 43, 3) := by decide +kernel
theorem dX6_share_6 : decode cX6_share 6 = .ok (.ifCond .eq 6, 3) := by decide +kernel
theorem dX6_share_9 : decode cX6_share 9 = .ok (.ldc 47, 2) := by decide +kernel
theorem dX6_share_11 : decode cX6_share 11 = .ok (.ireturn, 1) := by decide +kernel
theorem dX6_share_12 : decode cX6_share 12 = .ok (.aload_n 0, 1) := by decide +kernel
theorem dX6_share_13 : decode cX6_share 13 = .ok (.getfield 12, 3) := by decide +kernel
theorem dX6_share_16 : decode cX6_share 16 = .ok (.getfield 199, 3) := by decide +kernel
theorem dX6_share_19 : decode cX6_share 19 = .ok (.ifCond .ne 6, 3) := by decide +kernel
theorem dX6_share_22 : decode cX6_share 22 = .ok (.ldc 133, 2) := by decide +kernel
theorem dX6_share_24 : decode cX6_share 24 = .ok (.ireturn, 1) := by decide +kernel
theorem dX6_share_25 : decode cX6_share 25 = .ok (.iload_n 1, 1) := by decide +kernel
theorem dX6_share_26 : decode cX6_share 26 = .ok (.lookupswitch 66 #[(0, 26), (1, 46)], 26) := by decide +kernel
theorem dX6_share_52 : decode cX6_share 52 = .ok (.aload_n 0, 1) := by decide +kernel
theorem dX6_share_53 : decode cX6_share 53 = .ok (.getfield 12, 3) := by decide +kernel
theorem dX6_share_56 : decode cX6_share 56 = .ok (.getfield 202, 3) := by decide +kernel
theorem dX6_share_59 : decode cX6_share 59 = .ok (.i2l, 1) := by decide +kernel
theorem dX6_share_60 : decode cX6_share 60 = .ok (.aload_n 0, 1) := by decide +kernel
theorem dX6_share_61 : decode cX6_share 61 = .ok (.getfield 12, 3) := by decide +kernel
theorem dX6_share_64 : decode cX6_share 64 = .ok (.getfield 199, 3) := by decide +kernel
theorem dX6_share_67 : decode cX6_share 67 = .ok (.i2l, 1) := by decide +kernel
theorem dX6_share_68 : decode cX6_share 68 = .ok (.invokestatic 204, 3) := by decide +kernel
theorem dX6_share_71 : decode cX6_share 71 = .ok (.ireturn, 1) := by decide +kernel
theorem dX6_share_72 : decode cX6_share 72 = .ok (.aload_n 0, 1) := by decide +kernel
theorem dX6_share_73 : decode cX6_share 73 = .ok (.getfield 12, 3) := by decide +kernel
theorem dX6_share_76 : decode cX6_share 76 = .ok (.getfield 208, 3) := by decide +kernel
theorem dX6_share_79 : decode cX6_share 79 = .ok (.i2l, 1) := by decide +kernel
theorem dX6_share_80 : decode cX6_share 80 = .ok (.aload_n 0, 1) := by decide +kernel
theorem dX6_share_81 : decode cX6_share 81 = .ok (.getfield 12, 3) := by decide +kernel
theorem dX6_share_84 : decode cX6_share 84 = .ok (.getfield 199, 3) := by decide +kernel
theorem dX6_share_87 : decode cX6_share 87 = .ok (.i2l, 1) := by decide +kernel
theorem dX6_share_88 : decode cX6_share 88 = .ok (.invokestatic 204, 3) := by decide +kernel
theorem dX6_share_91 : decode cX6_share 91 = .ok (.ireturn, 1) := by decide +kernel
theorem dX6_share_92 : decode cX6_share 92 = .ok (.aload_n 0, 1) := by decide +kernel
theorem dX6_share_93 : decode cX6_share 93 = .ok (.getfield 12, 3) := by decide +kernel
theorem dX6_share_96 : decode cX6_share 96 = .ok (.getfield 210, 3) := by decide +kernel
theorem dX6_share_99 : decode cX6_share 99 = .ok (.i2l, 1) := by decide +kernel
theorem dX6_share_100 : decode cX6_share 100 = .ok (.aload_n 0, 1) := by decide +kernel
theorem dX6_share_101 : decode cX6_share 101 = .ok (.getfield 12, 3) := by decide +kernel
theorem dX6_share_104 : decode cX6_share 104 = .ok (.getfield 199, 3) := by decide +kernel
theorem dX6_share_107 : decode cX6_share 107 = .ok (.i2l, 1) := by decide +kernel
theorem dX6_share_108 : decode cX6_share 108 = .ok (.invokestatic 204, 3) := by decide +kernel
theorem dX6_share_111 : decode cX6_share 111 = .ok (.ireturn, 1) := by decide +kernel
theorem dX6_count_0 : decode cX6_count 0 = .ok (.iload_n 1, 1) := by decide +kernel
theorem dX6_count_1 : decode cX6_count 1 = .ok (.tableswitch 255 0 15 #[79, 90, 101, 115, 126, 137, 148, 156, 164, 172, 180, 188, 199, 228, 239, 247], 79) := by decide +kernel
theorem dX6_count_80 : decode cX6_count 80 = .ok (.aload_n 0, 1) := by decide +kernel
theorem dX6_count_81 : decode cX6_count 81 = .ok (.getfield 12, 3) := by decide +kernel
theorem dX6_count_84 : decode cX6_count 84 = .ok (.getfield 33, 3) := by decide +kernel
theorem dX6_count_87 : decode cX6_count 87 = .ok (.getfield 48, 3) := by decide +kernel
theorem dX6_count_90 : decode cX6_count 90 = .ok (.ireturn, 1) := by decide +kernel
theorem dX6_count_91 : decode cX6_count 91 = .ok (.aload_n 0, 1) := by decide +kernel
theorem dX6_count_92 : decode cX6_count 92 = .ok (.getfield 12, 3) := by decide +kernel
theorem dX6_count_95 : decode cX6_count 95 = .ok (.getfield 61, 3) := by decide +kernel
theorem dX6_count_98 : decode cX6_count 98 = .ok (.getfield 65, 3) := by decide +kernel
theorem dX6_count_101 : decode cX6_count 101 = .ok (.ireturn, 1) := by decide +kernel
theorem dX6_count_102 : decode cX6_count 102 = .ok (.aload_n 0, 1) := by decide +kernel
theorem dX6_count_103 : decode cX6_count 103 = .ok (.getfield 12, 3) := by decide +kernel
theorem dX6_count_106 : decode cX6_count 106 = .ok (.getfield 61, 3) := by decide +kernel
theorem dX6_count_109 : decode cX6_count 109 = .ok (.invokevirtual 236, 3) := by decide +kernel
theorem dX6_count_112 : decode cX6_count 112 = .ok (.invokestatic 227, 3) := by decide +kernel
theorem dX6_count_115 : decode cX6_count 115 = .ok (.ireturn, 1) := by decide +kernel
theorem dX6_count_116 : decode cX6_count 116 = .ok (.aload_n 0, 1) := by decide +kernel
theorem dX6_count_117 : decode cX6_count 117 = .ok (.getfield 12, 3) := by decide +kernel
theorem dX6_count_120 : decode cX6_count 120 = .ok (.getfield 61, 3) := by decide +kernel
theorem dX6_count_123 : decode cX6_count 123 = .ok (.getfield 242, 3) := by decide +kernel
theorem dX6_count_126 : decode cX6_count 126 = .ok (.ireturn, 1) := by decide +kernel
theorem dX6_count_127 : decode cX6_count 127 = .ok (.aload_n 0, 1) := by decide +kernel
theorem dX6_count_128 : decode cX6_count 128 = .ok (.getfield 12, 3) := by decide +kernel
theorem dX6_count_131 : decode cX6_count 131 = .ok (.getfield 33, 3) := by decide +kernel
theorem dX6_count_134 : decode cX6_count 134 = .ok (.getfield 215, 3) := by decide +kernel
theorem dX6_count_137 : decode cX6_count 137 = .ok (.ireturn, 1) := by decide +kernel
theorem dX6_count_138 : decode cX6_count 138 = .ok (.aload_n 0, 1) := by decide +kernel
theorem dX6_count_139 : decode cX6_count 139 = .ok (.getfield 12, 3) := by decide +kernel
theorem dX6_count_142 : decode cX6_count 142 = .ok (.getfield 33, 3) := by decide +kernel
theorem dX6_count_145 : decode cX6_count 145 = .ok (.invokevirtual 245, 3) := by decide +kernel
theorem dX6_count_148 : decode cX6_count 148 = .ok (.ireturn, 1) := by decide +kernel
theorem dX6_count_149 : decode cX6_count 149 = .ok (.aload_n 0, 1) := by decide +kernel
theorem dX6_count_150 : decode cX6_count 150 = .ok (.getfield 12, 3) := by decide +kernel
theorem dX6_count_153 : decode cX6_count 153 = .ok (.getfield 248, 3) := by decide +kernel
theorem dX6_count_156 : decode cX6_count 156 = .ok (.ireturn, 1) := by decide +kernel
theorem dX6_count_157 : decode cX6_count 157 = .ok (.aload_n 0, 1) := by decide +kernel
theorem dX6_count_158 : decode cX6_count 158 = .ok (.getfield 12, 3) := by decide +kernel
theorem dX6_count_161 : decode cX6_count 161 = .ok (.getfield 199, 3) := by decide +kernel
theorem dX6_count_164 : decode cX6_count 164 = .ok (.ireturn, 1) := by decide +kernel
theorem dX6_count_165 : decode cX6_count 165 = .ok (.aload_n 0, 1) := by decide +kernel
theorem dX6_count_166 : decode cX6_count 166 = .ok (.getfield 12, 3) := by decide +kernel
theorem dX6_count_169 : decode cX6_count 169 = .ok (.getfield 202, 3) := by decide +kernel
theorem dX6_count_172 : decode cX6_count 172 = .ok (.ireturn, 1) := by decide +kernel
theorem dX6_count_173 : decode cX6_count 173 = .ok (.aload_n 0, 1) := by decide +kernel
theorem dX6_count_174 : decode cX6_count 174 = .ok (.getfield 12, 3) := by decide +kernel
theorem dX6_count_177 : decode cX6_count 177 = .ok (.getfield 208, 3) := by decide +kernel
theorem dX6_count_180 : decode cX6_count 180 = .ok (.ireturn, 1) := by decide +kernel
theorem dX6_count_181 : decode cX6_count 181 = .ok (.aload_n 0, 1) := by decide +kernel
theorem dX6_count_182 : decode cX6_count 182 = .ok (.getfield 12, 3) := by decide +kernel
theorem dX6_count_185 : decode cX6_count 185 = .ok (.getfield 210, 3) := by decide +kernel
theorem dX6_count_188 : decode cX6_count 188 = .ok (.ireturn, 1) := by decide +kernel
theorem dX6_count_189 : decode cX6_count 189 = .ok (.aload_n 0, 1) := by decide +kernel
theorem dX6_count_190 : decode cX6_count 190 = .ok (.getfield 12, 3) := by decide +kernel
theorem dX6_count_193 : decode cX6_count 193 = .ok (.getfield 110, 3) := by decide +kernel
theorem dX6_count_196 : decode cX6_count 196 = .ok (.getfield 114, 3) := by decide +kernel
theorem dX6_count_199 : decode cX6_count 199 = .ok (.ireturn, 1) := by decide +kernel
theorem dX6_count_200 : decode cX6_count 200 = .ok (.aload_n 0, 1) := by decide +kernel
theorem dX6_count_201 : decode cX6_count 201 = .ok (.getfield 12, 3) := by decide +kernel
theorem dX6_count_204 : decode cX6_count 204 = .ok (.getfield 110, 3) := by decide +kernel
theorem dX6_count_207 : decode cX6_count 207 = .ok (.getfield 114, 3) := by decide +kernel
theorem dX6_count_210 : decode cX6_count 210 = .ok (.ifCond .ne 8, 3) := by decide +kernel
theorem dX6_count_213 : decode cX6_count 213 = .ok (.ldc 133, 2) := by decide +kernel
theorem dX6_count_215 : decode cX6_count 215 = .ok (.goto 13, 3) := by decide +kernel
theorem dX6_count_218 : decode cX6_count 218 = .ok (.aload_n 0, 1) := by decide +kernel
theorem dX6_count_219 : decode cX6_count 219 = .ok (.getfield 12, 3) := by decide +kernel
theorem dX6_count_222 : decode cX6_count 222 = .ok (.getfield 110, 3) := by decide +kernel
theorem dX6_count_225 : decode cX6_count 225 = .ok (.getfield 250, 3) := by decide +kernel
theorem dX6_count_228 : decode cX6_count 228 = .ok (.ireturn, 1) := by decide +kernel
theorem dX6_count_229 : decode cX6_count 229 = .ok (.aload_n 0, 1) := by decide +kernel
theorem dX6_count_230 : decode cX6_count 230 = .ok (.getfield 12, 3) := by decide +kernel
theorem dX6_count_233 : decode cX6_count 233 = .ok (.getfield 110, 3) := by decide +kernel
theorem dX6_count_236 : decode cX6_count 236 = .ok (.getfield 253, 3) := by decide +kernel
theorem dX6_count_239 : decode cX6_count 239 = .ok (.ireturn, 1) := by decide +kernel
theorem dX6_count_240 : decode cX6_count 240 = .ok (.aload_n 0, 1) := by decide +kernel
theorem dX6_count_241 : decode cX6_count 241 = .ok (.getfield 22, 3) := by decide +kernel
theorem dX6_count_244 : decode cX6_count 244 = .ok (.getfield 256, 3) := by decide +kernel
theorem dX6_count_247 : decode cX6_count 247 = .ok (.ireturn, 1) := by decide +kernel
theorem dX6_count_248 : decode cX6_count 248 = .ok (.aload_n 0, 1) := by decide +kernel
theorem dX6_count_249 : decode cX6_count 249 = .ok (.getfield 29, 3) := by decide +kernel
theorem dX6_count_252 : decode cX6_count 252 = .ok (.getfield 257, 3) := by decide +kernel
theorem dX6_count_255 : decode cX6_count 255 = .ok (.ireturn, 1) := by decide +kernel
theorem dX6_count_256 : decode cX6_count 256 = .ok (.ldc 47, 2) := by decide +kernel
theorem dX6_count_258 : decode cX6_count 258 = .ok (.ireturn, 1) := by decide +kernel
theorem dX6_undo_0 : decode cX6_undo 0 = .ok (.aload_n 0, 1) := by decide +kernel
theorem dX6_undo_1 : decode cX6_undo 1 = .ok (.getfield 22, 3) := by decide +kernel
theorem dX6_undo_4 : decode cX6_undo 4 = .ok (.getfield 256, 3) := by decide +kernel
theorem dX6_undo_7 : decode cX6_undo 7 = .ok (.ifCond .ne 6, 3) := by decide +kernel
theorem dX6_undo_10 : decode cX6_undo 10 = .ok (.ldc 83, 2) := by decide +kernel
theorem dX6_undo_12 : decode cX6_undo 12 = .ok (.ireturn, 1) := by decide +kernel
theorem dX6_undo_13 : decode cX6_undo 13 = .ok (.aload_n 0, 1) := by decide +kernel
theorem dX6_undo_14 : decode cX6_undo 14 = .ok (.getfield 22, 3) := by decide +kernel
theorem dX6_undo_17 : decode cX6_undo 17 = .ok (.aload_n 0, 1) := by decide +kernel
theorem dX6_undo_18 : decode cX6_undo 18 = .ok (.getfield 12, 3) := by decide +kernel
theorem dX6_undo_21 : decode cX6_undo 21 = .ok (.invokevirtual 260, 3) := by decide +kernel
theorem dX6_undo_24 : decode cX6_undo 24 = .ok (.ireturn, 1) := by decide +kernel
theorem dX6_isOutside_0 : decode cX6_isOutside 0 = .ok (.iload_n 0, 1) := by decide +kernel
theorem dX6_isOutside_1 : decode cX6_isOutside 1 = .ok (.iload_n 1, 1) := by decide +kernel
theorem dX6_isOutside_2 : decode cX6_isOutside 2 = .ok (.if_icmp .lt 8, 3) := by decide +kernel
theorem dX6_isOutside_5 : decode cX6_isOutside 5 = .ok (.iload_n 0, 1) := by decide +kernel
theorem dX6_isOutside_6 : decode cX6_isOutside 6 = .ok (.iload_n 2, 1) := by decide +kernel
theorem dX6_isOutside_7 : decode cX6_isOutside 7 = .ok (.if_icmp .le 7, 3) := by decide +kernel
theorem dX6_isOutside_10 : decode cX6_isOutside 10 = .ok (.iconst 1, 1) := by decide +kernel
theorem dX6_isOutside_11 : decode cX6_isOutside 11 = .ok (.goto 4, 3) := by decide +kernel
theorem dX6_isOutside_14 : decode cX6_isOutside 14 = .ok (.iconst 0, 1) := by decide +kernel
theorem dX6_isOutside_15 : decode cX6_isOutside 15 = .ok (.ireturn, 1) := by decide +kernel
theorem dX6_asNumber_0 : decode cX6_asNumber 0 = .ok (.iload_n 0, 1) := by decide +kernel
theorem dX6_asNumber_1 : decode cX6_asNumber 1 = .ok (.ifCond .eq 7, 3) := by decide +kernel
theorem dX6_asNumber_4 : decode cX6_asNumber 4 = .ok (.iconst 1, 1) := by decide +kernel
theorem dX6_asNumber_5 : decode cX6_asNumber 5 = .ok (.goto 4, 3) := by decide +kernel
theorem dX6_asNumber_8 : decode cX6_asNumber 8 = .ok (.iconst 0, 1) := by decide +kernel
theorem dX6_asNumber_9 : decode cX6_asNumber 9 = .ok (.ireturn, 1) := by decide +kernel
theorem dX6_tendsKind_0 : decode cX6_tendsKind 0 = .ok (.iload_n 0, 1) := by decide +kernel
theorem dX6_tendsKind_1 : decode cX6_tendsKind 1 = .ok (.iconst 2, 1) := by decide +kernel
theorem dX6_tendsKind_2 : decode cX6_tendsKind 2 = .ok (.if_icmp .eq 8, 3) := by decide +kernel
theorem dX6_tendsKind_5 : decode cX6_tendsKind 5 = .ok (.iload_n 0, 1) := by decide +kernel
theorem dX6_tendsKind_6 : decode cX6_tendsKind 6 = .ok (.iload_n 1, 1) := by decide +kernel
theorem dX6_tendsKind_7 : decode cX6_tendsKind 7 = .ok (.if_icmp .ne 7, 3) := by decide +kernel
theorem dX6_tendsKind_10 : decode cX6_tendsKind 10 = .ok (.iconst 1, 1) := by decide +kernel
theorem dX6_tendsKind_11 : decode cX6_tendsKind 11 = .ok (.goto 4, 3) := by decide +kernel
theorem dX6_tendsKind_14 : decode cX6_tendsKind 14 = .ok (.iconst 0, 1) := by decide +kernel
theorem dX6_tendsKind_15 : decode cX6_tendsKind 15 = .ok (.ireturn, 1) := by decide +kernel
theorem dX6_floatBits_0 : decode cX6_floatBits 0 = .ok (.lload_n 0, 1) := by decide +kernel
theorem dX6_floatBits_1 : decode cX6_floatBits 1 = .ok (.lconst 0, 1) := by decide +kernel
theorem dX6_floatBits_2 : decode cX6_floatBits 2 = .ok (.lcmp, 1) := by decide +kernel
theorem dX6_floatBits_3 : decode cX6_floatBits 3 = .ok (.ifCond .le 9, 3) := by decide +kernel
theorem dX6_floatBits_6 : decode cX6_floatBits 6 = .ok (.lload_n 2, 1) := by decide +kernel
theorem dX6_floatBits_7 : decode cX6_floatBits 7 = .ok (.lconst 0, 1) := by decide +kernel
theorem dX6_floatBits_8 : decode cX6_floatBits 8 = .ok (.lcmp, 1) := by decide +kernel
theorem dX6_floatBits_9 : decode cX6_floatBits 9 = .ok (.ifCond .gt 5, 3) := by decide +kernel
theorem dX6_floatBits_12 : decode cX6_floatBits 12 = .ok (.iconst 0, 1) := by decide +kernel
theorem dX6_floatBits_13 : decode cX6_floatBits 13 = .ok (.ireturn, 1) := by decide +kernel
theorem dX6_floatBits_14 : decode cX6_floatBits 14 = .ok (.bipush 23, 2) := by decide +kernel
theorem dX6_floatBits_16 : decode cX6_floatBits 16 = .ok (.istore 4, 2) := by decide +kernel
theorem dX6_floatBits_18 : decode cX6_floatBits 18 = .ok (.iload 4, 2) := by decide +kernel
theorem dX6_floatBits_20 : decode cX6_floatBits 20 = .ok (.bipush 46, 2) := by decide +kernel
theorem dX6_floatBits_22 : decode cX6_floatBits 22 = .ok (.if_icmp .ge 21, 3) := by decide +kernel
theorem dX6_floatBits_25 : decode cX6_floatBits 25 = .ok (.lload_n 0, 1) := by decide +kernel
theorem dX6_floatBits_26 : decode cX6_floatBits 26 = .ok (.iload 4, 2) := by decide +kernel
theorem dX6_floatBits_28 : decode cX6_floatBits 28 = .ok (.lshl, 1) := by decide +kernel
theorem dX6_floatBits_29 : decode cX6_floatBits 29 = .ok (.lload_n 2, 1) := by decide +kernel
theorem dX6_floatBits_30 : decode cX6_floatBits 30 = .ok (.bipush 23, 2) := by decide +kernel
theorem dX6_floatBits_32 : decode cX6_floatBits 32 = .ok (.lshl, 1) := by decide +kernel
theorem dX6_floatBits_33 : decode cX6_floatBits 33 = .ok (.lcmp, 1) := by decide +kernel
theorem dX6_floatBits_34 : decode cX6_floatBits 34 = .ok (.ifCond .ge 9, 3) := by decide +kernel
theorem dX6_floatBits_37 : decode cX6_floatBits 37 = .ok (.iinc 4 1, 3) := by decide +kernel
theorem dX6_floatBits_40 : decode cX6_floatBits 40 = .ok (.goto (-22), 3) := by decide +kernel
theorem dX6_floatBits_43 : decode cX6_floatBits 43 = .ok (.lload_n 0, 1) := by decide +kernel
theorem dX6_floatBits_44 : decode cX6_floatBits 44 = .ok (.iload 4, 2) := by decide +kernel
theorem dX6_floatBits_46 : decode cX6_floatBits 46 = .ok (.lshl, 1) := by decide +kernel
theorem dX6_floatBits_47 : decode cX6_floatBits 47 = .ok (.lload_n 2, 1) := by decide +kernel
theorem dX6_floatBits_48 : decode cX6_floatBits 48 = .ok (.ldiv, 1) := by decide +kernel
theorem dX6_floatBits_49 : decode cX6_floatBits 49 = .ok (.lstore 5, 2) := by decide +kernel
theorem dX6_floatBits_51 : decode cX6_floatBits 51 = .ok (.lload_n 0, 1) := by decide +kernel
theorem dX6_floatBits_52 : decode cX6_floatBits 52 = .ok (.iload 4, 2) := by decide +kernel
theorem dX6_floatBits_54 : decode cX6_floatBits 54 = .ok (.lshl, 1) := by decide +kernel
theorem dX6_floatBits_55 : decode cX6_floatBits 55 = .ok (.lload_n 2, 1) := by decide +kernel
theorem dX6_floatBits_56 : decode cX6_floatBits 56 = .ok (.lrem, 1) := by decide +kernel
theorem dX6_floatBits_57 : decode cX6_floatBits 57 = .ok (.lstore 7, 2) := by decide +kernel
theorem dX6_floatBits_59 : decode cX6_floatBits 59 = .ok (.ldc2_w 279, 3) := by decide +kernel
theorem dX6_floatBits_62 : decode cX6_floatBits 62 = .ok (.lload 7, 2) := by decide +kernel
theorem dX6_floatBits_64 : decode cX6_floatBits 64 = .ok (.lmul, 1) := by decide +kernel
theorem dX6_floatBits_65 : decode cX6_floatBits 65 = .ok (.lload_n 2, 1) := by decide +kernel
theorem dX6_floatBits_66 : decode cX6_floatBits 66 = .ok (.lcmp, 1) := by decide +kernel
theorem dX6_floatBits_67 : decode cX6_floatBits 67 = .ok (.ifCond .le 9, 3) := by decide +kernel
theorem dX6_floatBits_70 : decode cX6_floatBits 70 = .ok (.lload 5, 2) := by decide +kernel
theorem dX6_floatBits_72 : decode cX6_floatBits 72 = .ok (.lconst 1, 1) := by decide +kernel
theorem dX6_floatBits_73 : decode cX6_floatBits 73 = .ok (.ladd, 1) := by decide +kernel
theorem dX6_floatBits_74 : decode cX6_floatBits 74 = .ok (.lstore 5, 2) := by decide +kernel
theorem dX6_floatBits_76 : decode cX6_floatBits 76 = .ok (.sipush 150, 3) := by decide +kernel
theorem dX6_floatBits_79 : decode cX6_floatBits 79 = .ok (.iload 4, 2) := by decide +kernel
theorem dX6_floatBits_81 : decode cX6_floatBits 81 = .ok (.isub, 1) := by decide +kernel
theorem dX6_floatBits_82 : decode cX6_floatBits 82 = .ok (.istore 9, 2) := by decide +kernel
theorem dX6_floatBits_84 : decode cX6_floatBits 84 = .ok (.iload 9, 2) := by decide +kernel
theorem dX6_floatBits_86 : decode cX6_floatBits 86 = .ok (.bipush 23, 2) := by decide +kernel
theorem dX6_floatBits_88 : decode cX6_floatBits 88 = .ok (.ishl, 1) := by decide +kernel
theorem dX6_floatBits_89 : decode cX6_floatBits 89 = .ok (.lload 5, 2) := by decide +kernel
theorem dX6_floatBits_91 : decode cX6_floatBits 91 = .ok (.ldc2_w 281, 3) := by decide +kernel
theorem dX6_floatBits_94 : decode cX6_floatBits 94 = .ok (.lsub, 1) := by decide +kernel
theorem dX6_floatBits_95 : decode cX6_floatBits 95 = .ok (.l2i, 1) := by decide +kernel
theorem dX6_floatBits_96 : decode cX6_floatBits 96 = .ok (.iadd, 1) := by decide +kernel
theorem dX6_floatBits_97 : decode cX6_floatBits 97 = .ok (.ireturn, 1) := by decide +kernel
theorem dJ6_bitCount_0f7a4_0 : decode cJ6_bitCount_0f7a4 0 = .ok (.iload_n 0, 1) := by decide +kernel
theorem dJ6_bitCount_0f7a4_1 : decode cJ6_bitCount_0f7a4 1 = .ok (.iload_n 0, 1) := by decide +kernel
theorem dJ6_bitCount_0f7a4_2 : decode cJ6_bitCount_0f7a4 2 = .ok (.iconst 1, 1) := by decide +kernel
theorem dJ6_bitCount_0f7a4_3 : decode cJ6_bitCount_0f7a4 3 = .ok (.iushr, 1) := by decide +kernel
theorem dJ6_bitCount_0f7a4_4 : decode cJ6_bitCount_0f7a4 4 = .ok (.ldc_w 265, 3) := by decide +kernel
theorem dJ6_bitCount_0f7a4_7 : decode cJ6_bitCount_0f7a4 7 = .ok (.iand, 1) := by decide +kernel
theorem dJ6_bitCount_0f7a4_8 : decode cJ6_bitCount_0f7a4 8 = .ok (.isub, 1) := by decide +kernel
theorem dJ6_bitCount_0f7a4_9 : decode cJ6_bitCount_0f7a4 9 = .ok (.istore_n 0, 1) := by decide +kernel
theorem dJ6_bitCount_0f7a4_10 : decode cJ6_bitCount_0f7a4 10 = .ok (.iload_n 0, 1) := by decide +kernel
theorem dJ6_bitCount_0f7a4_11 : decode cJ6_bitCount_0f7a4 11 = .ok (.ldc_w 266, 3) := by decide +kernel
theorem dJ6_bitCount_0f7a4_14 : decode cJ6_bitCount_0f7a4 14 = .ok (.iand, 1) := by decide +kernel
theorem dJ6_bitCount_0f7a4_15 : decode cJ6_bitCount_0f7a4 15 = .ok (.iload_n 0, 1) := by decide +kernel
theorem dJ6_bitCount_0f7a4_16 : decode cJ6_bitCount_0f7a4 16 = .ok (.iconst 2, 1) := by decide +kernel
theorem dJ6_bitCount_0f7a4_17 : decode cJ6_bitCount_0f7a4 17 = .ok (.iushr, 1) := by decide +kernel
theorem dJ6_bitCount_0f7a4_18 : decode cJ6_bitCount_0f7a4 18 = .ok (.ldc_w 266, 3) := by decide +kernel
theorem dJ6_bitCount_0f7a4_21 : decode cJ6_bitCount_0f7a4 21 = .ok (.iand, 1) := by decide +kernel
theorem dJ6_bitCount_0f7a4_22 : decode cJ6_bitCount_0f7a4 22 = .ok (.iadd, 1) := by decide +kernel
theorem dJ6_bitCount_0f7a4_23 : decode cJ6_bitCount_0f7a4 23 = .ok (.istore_n 0, 1) := by decide +kernel
theorem dJ6_bitCount_0f7a4_24 : decode cJ6_bitCount_0f7a4 24 = .ok (.iload_n 0, 1) := by decide +kernel
theorem dJ6_bitCount_0f7a4_25 : decode cJ6_bitCount_0f7a4 25 = .ok (.iload_n 0, 1) := by decide +kernel
theorem dJ6_bitCount_0f7a4_26 : decode cJ6_bitCount_0f7a4 26 = .ok (.iconst 4, 1) := by decide +kernel
theorem dJ6_bitCount_0f7a4_27 : decode cJ6_bitCount_0f7a4 27 = .ok (.iushr, 1) := by decide +kernel
theorem dJ6_bitCount_0f7a4_28 : decode cJ6_bitCount_0f7a4 28 = .ok (.iadd, 1) := by decide +kernel
theorem dJ6_bitCount_0f7a4_29 : decode cJ6_bitCount_0f7a4 29 = .ok (.ldc_w 267, 3) := by decide +kernel
theorem dJ6_bitCount_0f7a4_32 : decode cJ6_bitCount_0f7a4 32 = .ok (.iand, 1) := by decide +kernel
theorem dJ6_bitCount_0f7a4_33 : decode cJ6_bitCount_0f7a4 33 = .ok (.istore_n 0, 1) := by decide +kernel
theorem dJ6_bitCount_0f7a4_34 : decode cJ6_bitCount_0f7a4 34 = .ok (.iload_n 0, 1) := by decide +kernel
theorem dJ6_bitCount_0f7a4_35 : decode cJ6_bitCount_0f7a4 35 = .ok (.iload_n 0, 1) := by decide +kernel
theorem dJ6_bitCount_0f7a4_36 : decode cJ6_bitCount_0f7a4 36 = .ok (.bipush 8, 2) := by decide +kernel
theorem dJ6_bitCount_0f7a4_38 : decode cJ6_bitCount_0f7a4 38 = .ok (.iushr, 1) := by decide +kernel
theorem dJ6_bitCount_0f7a4_39 : decode cJ6_bitCount_0f7a4 39 = .ok (.iadd, 1) := by decide +kernel
theorem dJ6_bitCount_0f7a4_40 : decode cJ6_bitCount_0f7a4 40 = .ok (.istore_n 0, 1) := by decide +kernel
theorem dJ6_bitCount_0f7a4_41 : decode cJ6_bitCount_0f7a4 41 = .ok (.iload_n 0, 1) := by decide +kernel
theorem dJ6_bitCount_0f7a4_42 : decode cJ6_bitCount_0f7a4 42 = .ok (.iload_n 0, 1) := by decide +kernel
theorem dJ6_bitCount_0f7a4_43 : decode cJ6_bitCount_0f7a4 43 = .ok (.bipush 16, 2) := by decide +kernel
theorem dJ6_bitCount_0f7a4_45 : decode cJ6_bitCount_0f7a4 45 = .ok (.iushr, 1) := by decide +kernel
theorem dJ6_bitCount_0f7a4_46 : decode cJ6_bitCount_0f7a4 46 = .ok (.iadd, 1) := by decide +kernel
theorem dJ6_bitCount_0f7a4_47 : decode cJ6_bitCount_0f7a4 47 = .ok (.istore_n 0, 1) := by decide +kernel
theorem dJ6_bitCount_0f7a4_48 : decode cJ6_bitCount_0f7a4 48 = .ok (.iload_n 0, 1) := by decide +kernel
theorem dJ6_bitCount_0f7a4_49 : decode cJ6_bitCount_0f7a4 49 = .ok (.bipush 63, 2) := by decide +kernel
theorem dJ6_bitCount_0f7a4_51 : decode cJ6_bitCount_0f7a4 51 = .ok (.iand, 1) := by decide +kernel
theorem dJ6_bitCount_0f7a4_52 : decode cJ6_bitCount_0f7a4 52 = .ok (.ireturn, 1) := by decide +kernel
theorem dJ9_min_7cf53_0 : decode cJ9_min_7cf53 0 = .ok (.iload_n 0, 1) := by decide +kernel
theorem dJ9_min_7cf53_1 : decode cJ9_min_7cf53 1 = .ok (.iload_n 1, 1) := by decide +kernel
theorem dJ9_min_7cf53_2 : decode cJ9_min_7cf53 2 = .ok (.if_icmp .gt 7, 3) := by decide +kernel
theorem dJ9_min_7cf53_5 : decode cJ9_min_7cf53 5 = .ok (.iload_n 0, 1) := by decide +kernel
theorem dJ9_min_7cf53_6 : decode cJ9_min_7cf53 6 = .ok (.goto 4, 3) := by decide +kernel
theorem dJ9_min_7cf53_9 : decode cJ9_min_7cf53 9 = .ok (.iload_n 1, 1) := by decide +kernel
theorem dJ9_min_7cf53_10 : decode cJ9_min_7cf53 10 = .ok (.ireturn, 1) := by decide +kernel
theorem dJ7_fill_53178_0 : decode cJ7_fill_53178 0 = .ok (.iconst 0, 1) := by decide +kernel
theorem dJ7_fill_53178_1 : decode cJ7_fill_53178 1 = .ok (.istore_n 2, 1) := by decide +kernel
theorem dJ7_fill_53178_2 : decode cJ7_fill_53178 2 = .ok (.aload_n 0, 1) := by decide +kernel
theorem dJ7_fill_53178_3 : decode cJ7_fill_53178 3 = .ok (.arraylength, 1) := by decide +kernel
theorem dJ7_fill_53178_4 : decode cJ7_fill_53178 4 = .ok (.istore_n 3, 1) := by decide +kernel
theorem dJ7_fill_53178_5 : decode cJ7_fill_53178 5 = .ok (.iload_n 2, 1) := by decide +kernel
theorem dJ7_fill_53178_6 : decode cJ7_fill_53178 6 = .ok (.iload_n 3, 1) := by decide +kernel
theorem dJ7_fill_53178_7 : decode cJ7_fill_53178 7 = .ok (.if_icmp .ge 13, 3) := by decide +kernel
theorem dJ7_fill_53178_10 : decode cJ7_fill_53178 10 = .ok (.aload_n 0, 1) := by decide +kernel
theorem dJ7_fill_53178_11 : decode cJ7_fill_53178 11 = .ok (.iload_n 2, 1) := by decide +kernel
theorem dJ7_fill_53178_12 : decode cJ7_fill_53178 12 = .ok (.iload_n 1, 1) := by decide +kernel
theorem dJ7_fill_53178_13 : decode cJ7_fill_53178 13 = .ok (.iastore, 1) := by decide +kernel
theorem dJ7_fill_53178_14 : decode cJ7_fill_53178 14 = .ok (.iinc 2 1, 3) := by decide +kernel
theorem dJ7_fill_53178_17 : decode cJ7_fill_53178 17 = .ok (.goto (-12), 3) := by decide +kernel
theorem dJ7_fill_53178_20 : decode cJ7_fill_53178 20 = .ok (.return_, 1) := by decide +kernel
theorem dL_cell_0 : decode cL_cell 0 = .ok (.iload_n 1, 1) := by decide +kernel
theorem dL_cell_1 : decode cL_cell 1 = .ok (.aload_n 0, 1) := by decide +kernel
theorem dL_cell_2 : decode cL_cell 2 = .ok (.arraylength, 1) := by decide +kernel
theorem dL_cell_3 : decode cL_cell 3 = .ok (.if_icmp .ge 9, 3) := by decide +kernel
theorem dL_cell_6 : decode cL_cell 6 = .ok (.aload_n 0, 1) := by decide +kernel
theorem dL_cell_7 : decode cL_cell 7 = .ok (.iload_n 1, 1) := by decide +kernel
theorem dL_cell_8 : decode cL_cell 8 = .ok (.iaload, 1) := by decide +kernel
theorem dL_cell_9 : decode cL_cell 9 = .ok (.goto 10, 3) := by decide +kernel
theorem dL_cell_12 : decode cL_cell 12 = .ok (.ldc 7, 2) := by decide +kernel
theorem dL_cell_14 : decode cL_cell 14 = .ok (.iload_n 1, 1) := by decide +kernel
theorem dL_cell_15 : decode cL_cell 15 = .ok (.bipush 59, 2) := by decide +kernel
theorem dL_cell_17 : decode cL_cell 17 = .ok (.iadd, 1) := by decide +kernel
theorem dL_cell_18 : decode cL_cell 18 = .ok (.imul, 1) := by decide +kernel
theorem dL_cell_19 : decode cL_cell 19 = .ok (.ldc 8, 2) := by decide +kernel
theorem dL_cell_21 : decode cL_cell 21 = .ok (.iand, 1) := by decide +kernel
theorem dL_cell_22 : decode cL_cell 22 = .ok (.ireturn, 1) := by decide +kernel
theorem dL_holds_0 : decode cL_holds 0 = .ok (.iconst 0, 1) := by decide +kernel
theorem dL_holds_1 : decode cL_holds 1 = .ok (.istore_n 1, 1) := by decide +kernel
theorem dL_holds_2 : decode cL_holds 2 = .ok (.iconst 0, 1) := by decide +kernel
theorem dL_holds_3 : decode cL_holds 3 = .ok (.istore_n 2, 1) := by decide +kernel
theorem dL_holds_4 : decode cL_holds 4 = .ok (.iconst 0, 1) := by decide +kernel
theorem dL_holds_5 : decode cL_holds 5 = .ok (.istore_n 3, 1) := by decide +kernel
theorem dL_holds_6 : decode cL_holds 6 = .ok (.iconst 0, 1) := by decide +kernel
theorem dL_holds_7 : decode cL_holds 7 = .ok (.istore 4, 2) := by decide +kernel
theorem dL_holds_9 : decode cL_holds 9 = .ok (.iconst 0, 1) := by decide +kernel
theorem dL_holds_10 : decode cL_holds 10 = .ok (.istore 5, 2) := by decide +kernel
theorem dL_holds_12 : decode cL_holds 12 = .ok (.iconst 0, 1) := by decide +kernel
theorem dL_holds_13 : decode cL_holds 13 = .ok (.istore 6, 2) := by decide +kernel
theorem dL_holds_15 : decode cL_holds 15 = .ok (.iconst 0, 1) := by decide +kernel
theorem dL_holds_16 : decode cL_holds 16 = .ok (.istore 7, 2) := by decide +kernel
theorem dL_holds_18 : decode cL_holds 18 = .ok (.aload_n 0, 1) := by decide +kernel
theorem dL_holds_19 : decode cL_holds 19 = .ok (.bipush 7, 2) := by decide +kernel
theorem dL_holds_21 : decode cL_holds 21 = .ok (.invokevirtual 9, 3) := by decide +kernel
theorem dL_holds_24 : decode cL_holds 24 = .ok (.aload_n 0, 1) := by decide +kernel
theorem dL_holds_25 : decode cL_holds 25 = .ok (.bipush 8, 2) := by decide +kernel
theorem dL_holds_27 : decode cL_holds 27 = .ok (.invokevirtual 9, 3) := by decide +kernel
theorem dL_holds_30 : decode cL_holds 30 = .ok (.aload_n 0, 1) := by decide +kernel
theorem dL_holds_31 : decode cL_holds 31 = .ok (.bipush 9, 2) := by decide +kernel
theorem dL_holds_33 : decode cL_holds 33 = .ok (.invokevirtual 9, 3) := by decide +kernel
theorem dL_holds_36 : decode cL_holds 36 = .ok (.iadd, 1) := by decide +kernel
theorem dL_holds_37 : decode cL_holds 37 = .ok (.aload_n 0, 1) := by decide +kernel
theorem dL_holds_38 : decode cL_holds 38 = .ok (.bipush 10, 2) := by decide +kernel
theorem dL_holds_40 : decode cL_holds 40 = .ok (.invokevirtual 9, 3) := by decide +kernel
theorem dL_holds_43 : decode cL_holds 43 = .ok (.iadd, 1) := by decide +kernel
theorem dL_holds_44 : decode cL_holds 44 = .ok (.if_icmp .ne 7, 3) := by decide +kernel
theorem dL_holds_47 : decode cL_holds 47 = .ok (.iconst 1, 1) := by decide +kernel
theorem dL_holds_48 : decode cL_holds 48 = .ok (.goto 4, 3) := by decide +kernel
theorem dL_holds_51 : decode cL_holds 51 = .ok (.iconst 0, 1) := by decide +kernel
theorem dL_holds_52 : decode cL_holds 52 = .ok (.istore 8, 2) := by decide +kernel
theorem dL_holds_54 : decode cL_holds 54 = .ok (.iconst 0, 1) := by decide +kernel
theorem dL_holds_55 : decode cL_holds 55 = .ok (.istore 9, 2) := by decide +kernel
theorem dL_holds_57 : decode cL_holds 57 = .ok (.iload 9, 2) := by decide +kernel
theorem dL_holds_59 : decode cL_holds 59 = .ok (.aload_n 0, 1) := by decide +kernel
theorem dL_holds_60 : decode cL_holds 60 = .ok (.iconst 1, 1) := by decide +kernel
theorem dL_holds_61 : decode cL_holds 61 = .ok (.invokevirtual 9, 3) := by decide +kernel
theorem dL_holds_64 : decode cL_holds 64 = .ok (.if_icmp .ge 179, 3) := by decide +kernel
theorem dL_holds_67 : decode cL_holds 67 = .ok (.iload 8, 2) := by decide +kernel
theorem dL_holds_69 : decode cL_holds 69 = .ok (.ifCond .eq 174, 3) := by decide +kernel
theorem dL_holds_72 : decode cL_holds 72 = .ok (.aload_n 0, 1) := by decide +kernel
theorem dL_holds_73 : decode cL_holds 73 = .ok (.iload 9, 2) := by decide +kernel
theorem dL_holds_75 : decode cL_holds 75 = .ok (.iconst 4, 1) := by decide +kernel
theorem dL_holds_76 : decode cL_holds 76 = .ok (.invokevirtual 15, 3) := by decide +kernel
theorem dL_holds_79 : decode cL_holds 79 = .ok (.istore 10, 2) := by decide +kernel
theorem dL_holds_81 : decode cL_holds 81 = .ok (.iload 10, 2) := by decide +kernel
theorem dL_holds_83 : decode cL_holds 83 = .ok (.aload_n 0, 1) := by decide +kernel
theorem dL_holds_84 : decode cL_holds 84 = .ok (.iload 9, 2) := by decide +kernel
theorem dL_holds_86 : decode cL_holds 86 = .ok (.iconst 1, 1) := by decide +kernel
theorem dL_holds_87 : decode cL_holds 87 = .ok (.invokevirtual 15, 3) := by decide +kernel
theorem dL_holds_90 : decode cL_holds 90 = .ok (.if_icmp .ge 7, 3) := by decide +kernel
theorem dL_holds_93 : decode cL_holds 93 = .ok (.iconst 1, 1) := by decide +kernel
theorem dL_holds_94 : decode cL_holds 94 = .ok (.goto 4, 3) := by decide +kernel
theorem dL_holds_97 : decode cL_holds 97 = .ok (.iconst 0, 1) := by decide +kernel
theorem dL_holds_98 : decode cL_holds 98 = .ok (.istore 11, 2) := by decide +kernel
theorem dL_holds_100 : decode cL_holds 100 = .ok (.iload_n 1, 1) := by decide +kernel
theorem dL_holds_101 : decode cL_holds 101 = .ok (.iload 10, 2) := by decide +kernel
theorem dL_holds_103 : decode cL_holds 103 = .ok (.iadd, 1) := by decide +kernel
theorem dL_holds_104 : decode cL_holds 104 = .ok (.istore_n 1, 1) := by decide +kernel
theorem dL_holds_105 : decode cL_holds 105 = .ok (.iload_n 2, 1) := by decide +kernel
theorem dL_holds_106 : decode cL_holds 106 = .ok (.iload 11, 2) := by decide +kernel
theorem dL_holds_108 : decode cL_holds 108 = .ok (.ifCond .eq 7, 3) := by decide +kernel
theorem dL_holds_111 : decode cL_holds 111 = .ok (.iconst 1, 1) := by decide +kernel
theorem dL_holds_112 : decode cL_holds 112 = .ok (.goto 4, 3) := by decide +kernel
theorem dL_holds_115 : decode cL_holds 115 = .ok (.iconst 0, 1) := by decide +kernel
theorem dL_holds_116 : decode cL_holds 116 = .ok (.iadd, 1) := by decide +kernel
theorem dL_holds_117 : decode cL_holds 117 = .ok (.istore_n 2, 1) := by decide +kernel
theorem dL_holds_118 : decode cL_holds 118 = .ok (.iload_n 3, 1) := by decide +kernel
theorem dL_holds_119 : decode cL_holds 119 = .ok (.aload_n 0, 1) := by decide +kernel
theorem dL_holds_120 : decode cL_holds 120 = .ok (.iload 9, 2) := by decide +kernel
theorem dL_holds_122 : decode cL_holds 122 = .ok (.iconst 5, 1) := by decide +kernel
theorem dL_holds_123 : decode cL_holds 123 = .ok (.invokevirtual 15, 3) := by decide +kernel
theorem dL_holds_126 : decode cL_holds 126 = .ok (.iload 9, 2) := by decide +kernel
theorem dL_holds_128 : decode cL_holds 128 = .ok (.ishl, 1) := by decide +kernel
theorem dL_holds_129 : decode cL_holds 129 = .ok (.ior, 1) := by decide +kernel
theorem dL_holds_130 : decode cL_holds 130 = .ok (.istore_n 3, 1) := by decide +kernel
theorem dL_holds_131 : decode cL_holds 131 = .ok (.iload 10, 2) := by decide +kernel
theorem dL_holds_133 : decode cL_holds 133 = .ok (.ifCond .lt 101, 3) := by decide +kernel
theorem dL_holds_136 : decode cL_holds 136 = .ok (.iload 10, 2) := by decide +kernel
theorem dL_holds_138 : decode cL_holds 138 = .ok (.aload_n 0, 1) := by decide +kernel
theorem dL_holds_139 : decode cL_holds 139 = .ok (.iload 9, 2) := by decide +kernel
theorem dL_holds_141 : decode cL_holds 141 = .ok (.iconst 1, 1) := by decide +kernel
theorem dL_holds_142 : decode cL_holds 142 = .ok (.invokevirtual 15, 3) := by decide +kernel
theorem dL_holds_145 : decode cL_holds 145 = .ok (.if_icmp .gt 89, 3) := by decide +kernel
theorem dL_holds_148 : decode cL_holds 148 = .ok (.iload 11, 2) := by decide +kernel
theorem dL_holds_150 : decode cL_holds 150 = .ok (.ifCond .ne 42, 3) := by decide +kernel
theorem dL_holds_153 : decode cL_holds 153 = .ok (.aload_n 0, 1) := by decide +kernel
theorem dL_holds_154 : decode cL_holds 154 = .ok (.iload 9, 2) := by decide +kernel
theorem dL_holds_156 : decode cL_holds 156 = .ok (.iconst 5, 1) := by decide +kernel
theorem dL_holds_157 : decode cL_holds 157 = .ok (.invokevirtual 15, 3) := by decide +kernel
theorem dL_holds_160 : decode cL_holds 160 = .ok (.ifCond .ne 74, 3) := by decide +kernel
theorem dL_holds_163 : decode cL_holds 163 = .ok (.aload_n 0, 1) := by decide +kernel
theorem dL_holds_164 : decode cL_holds 164 = .ok (.iload 9, 2) := by decide +kernel
theorem dL_holds_166 : decode cL_holds 166 = .ok (.bipush 7, 2) := by decide +kernel
theorem dL_holds_168 : decode cL_holds 168 = .ok (.invokevirtual 15, 3) := by decide +kernel
theorem dL_holds_171 : decode cL_holds 171 = .ok (.iconst 1, 1) := by decide +kernel
theorem dL_holds_172 : decode cL_holds 172 = .ok (.if_icmp .lt 62, 3) := by decide +kernel
theorem dL_holds_175 : decode cL_holds 175 = .ok (.aload_n 0, 1) := by decide +kernel
theorem dL_holds_176 : decode cL_holds 176 = .ok (.iload 9, 2) := by decide +kernel
theorem dL_holds_178 : decode cL_holds 178 = .ok (.bipush 7, 2) := by decide +kernel
theorem dL_holds_180 : decode cL_holds 180 = .ok (.invokevirtual 15, 3) := by decide +kernel
theorem dL_holds_183 : decode cL_holds 183 = .ok (.aload_n 0, 1) := by decide +kernel
theorem dL_holds_184 : decode cL_holds 184 = .ok (.bipush 6, 2) := by decide +kernel
theorem dL_holds_186 : decode cL_holds 186 = .ok (.invokevirtual 9, 3) := by decide +kernel
theorem dL_holds_189 : decode cL_holds 189 = .ok (.if_icmp .gt 45, 3) := by decide +kernel
theorem dL_holds_192 : decode cL_holds 192 = .ok (.iload 11, 2) := by decide +kernel
theorem dL_holds_194 : decode cL_holds 194 = .ok (.ifCond .eq 16, 3) := by decide +kernel
theorem dL_holds_197 : decode cL_holds 197 = .ok (.aload_n 0, 1) := by decide +kernel
theorem dL_holds_198 : decode cL_holds 198 = .ok (.iload 9, 2) := by decide +kernel
theorem dL_holds_200 : decode cL_holds 200 = .ok (.bipush 7, 2) := by decide +kernel
theorem dL_holds_202 : decode cL_holds 202 = .ok (.invokevirtual 15, 3) := by decide +kernel
theorem dL_holds_205 : decode cL_holds 205 = .ok (.ldc 19, 2) := by decide +kernel
theorem dL_holds_207 : decode cL_holds 207 = .ok (.if_icmp .ne 27, 3) := by decide +kernel
theorem dL_holds_210 : decode cL_holds 210 = .ok (.aload_n 0, 1) := by decide +kernel
theorem dL_holds_211 : decode cL_holds 211 = .ok (.iconst 3, 1) := by decide +kernel
theorem dL_holds_212 : decode cL_holds 212 = .ok (.invokevirtual 9, 3) := by decide +kernel
theorem dL_holds_215 : decode cL_holds 215 = .ok (.ifCond .ne 15, 3) := by decide +kernel
theorem dL_holds_218 : decode cL_holds 218 = .ok (.aload_n 0, 1) := by decide +kernel
theorem dL_holds_219 : decode cL_holds 219 = .ok (.iload 9, 2) := by decide +kernel
theorem dL_holds_221 : decode cL_holds 221 = .ok (.bipush 6, 2) := by decide +kernel
theorem dL_holds_223 : decode cL_holds 223 = .ok (.invokevirtual 15, 3) := by decide +kernel
theorem dL_holds_226 : decode cL_holds 226 = .ok (.iconst 1, 1) := by decide +kernel
theorem dL_holds_227 : decode cL_holds 227 = .ok (.if_icmp .ne 7, 3) := by decide +kernel
theorem dL_holds_230 : decode cL_holds 230 = .ok (.iconst 1, 1) := by decide +kernel
theorem dL_holds_231 : decode cL_holds 231 = .ok (.goto 4, 3) := by decide +kernel
theorem dL_holds_234 : decode cL_holds 234 = .ok (.iconst 0, 1) := by decide +kernel
theorem dL_holds_235 : decode cL_holds 235 = .ok (.istore 8, 2) := by decide +kernel
theorem dL_holds_237 : decode cL_holds 237 = .ok (.iinc 9 1, 3) := by decide +kernel
theorem dL_holds_240 : decode cL_holds 240 = .ok (.goto (-183), 3) := by decide +kernel
theorem dL_holds_243 : decode cL_holds 243 = .ok (.iconst 0, 1) := by decide +kernel
theorem dL_holds_244 : decode cL_holds 244 = .ok (.istore 9, 2) := by decide +kernel
theorem dL_holds_246 : decode cL_holds 246 = .ok (.iload 9, 2) := by decide +kernel
theorem dL_holds_248 : decode cL_holds 248 = .ok (.aload_n 0, 1) := by decide +kernel
theorem dL_holds_249 : decode cL_holds 249 = .ok (.iconst 0, 1) := by decide +kernel
theorem dL_holds_250 : decode cL_holds 250 = .ok (.invokevirtual 9, 3) := by decide +kernel
theorem dL_holds_253 : decode cL_holds 253 = .ok (.if_icmp .ge 177, 3) := by decide +kernel
theorem dL_holds_256 : decode cL_holds 256 = .ok (.iload 8, 2) := by decide +kernel
theorem dL_holds_258 : decode cL_holds 258 = .ok (.ifCond .eq 172, 3) := by decide +kernel
theorem dL_holds_261 : decode cL_holds 261 = .ok (.iload 4, 2) := by decide +kernel
theorem dL_holds_263 : decode cL_holds 263 = .ok (.aload_n 0, 1) := by decide +kernel
theorem dL_holds_264 : decode cL_holds 264 = .ok (.iload 9, 2) := by decide +kernel
theorem dL_holds_266 : decode cL_holds 266 = .ok (.bipush 8, 2) := by decide +kernel
theorem dL_holds_268 : decode cL_holds 268 = .ok (.invokevirtual 20, 3) := by decide +kernel
theorem dL_holds_271 : decode cL_holds 271 = .ok (.iadd, 1) := by decide +kernel
theorem dL_holds_272 : decode cL_holds 272 = .ok (.istore 4, 2) := by decide +kernel
theorem dL_holds_274 : decode cL_holds 274 = .ok (.iload 5, 2) := by decide +kernel
theorem dL_holds_276 : decode cL_holds 276 = .ok (.aload_n 0, 1) := by decide +kernel
theorem dL_holds_277 : decode cL_holds 277 = .ok (.iload 9, 2) := by decide +kernel
theorem dL_holds_279 : decode cL_holds 279 = .ok (.bipush 9, 2) := by decide +kernel
theorem dL_holds_281 : decode cL_holds 281 = .ok (.invokevirtual 20, 3) := by decide +kernel
theorem dL_holds_284 : decode cL_holds 284 = .ok (.iadd, 1) := by decide +kernel
theorem dL_holds_285 : decode cL_holds 285 = .ok (.istore 5, 2) := by decide +kernel
theorem dL_holds_287 : decode cL_holds 287 = .ok (.iload 6, 2) := by decide +kernel
theorem dL_holds_289 : decode cL_holds 289 = .ok (.iload 9, 2) := by decide +kernel
theorem dL_holds_291 : decode cL_holds 291 = .ok (.ifCond .le 16, 3) := by decide +kernel
theorem dL_holds_294 : decode cL_holds 294 = .ok (.aload_n 0, 1) := by decide +kernel
theorem dL_holds_295 : decode cL_holds 295 = .ok (.iload 9, 2) := by decide +kernel
theorem dL_holds_297 : decode cL_holds 297 = .ok (.iconst 4, 1) := by decide +kernel
theorem dL_holds_298 : decode cL_holds 298 = .ok (.invokevirtual 20, 3) := by decide +kernel
theorem dL_holds_301 : decode cL_holds 301 = .ok (.iload 9, 2) := by decide +kernel
theorem dL_holds_303 : decode cL_holds 303 = .ok (.ishl, 1) := by decide +kernel
theorem dL_holds_304 : decode cL_holds 304 = .ok (.goto 4, 3) := by decide +kernel
theorem dL_holds_307 : decode cL_holds 307 = .ok (.iconst 0, 1) := by decide +kernel
theorem dL_holds_308 : decode cL_holds 308 = .ok (.ior, 1) := by decide +kernel
theorem dL_holds_309 : decode cL_holds 309 = .ok (.istore 6, 2) := by decide +kernel
theorem dL_holds_311 : decode cL_holds 311 = .ok (.iload 7, 2) := by decide +kernel
theorem dL_holds_313 : decode cL_holds 313 = .ok (.aload_n 0, 1) := by decide +kernel
theorem dL_holds_314 : decode cL_holds 314 = .ok (.iload 9, 2) := by decide +kernel
theorem dL_holds_316 : decode cL_holds 316 = .ok (.iconst 5, 1) := by decide +kernel
theorem dL_holds_317 : decode cL_holds 317 = .ok (.invokevirtual 20, 3) := by decide +kernel
theorem dL_holds_320 : decode cL_holds 320 = .ok (.ifCond .lt 10, 3) := by decide +kernel
theorem dL_holds_323 : decode cL_holds 323 = .ok (.iconst 1, 1) := by decide +kernel
theorem dL_holds_324 : decode cL_holds 324 = .ok (.iload 9, 2) := by decide +kernel
theorem dL_holds_326 : decode cL_holds 326 = .ok (.ishl, 1) := by decide +kernel
theorem dL_holds_327 : decode cL_holds 327 = .ok (.goto 4, 3) := by decide +kernel
theorem dL_holds_330 : decode cL_holds 330 = .ok (.iconst 0, 1) := by decide +kernel
theorem dL_holds_331 : decode cL_holds 331 = .ok (.ior, 1) := by decide +kernel
theorem dL_holds_332 : decode cL_holds 332 = .ok (.istore 7, 2) := by decide +kernel
theorem dL_holds_334 : decode cL_holds 334 = .ok (.aload_n 0, 1) := by decide +kernel
theorem dL_holds_335 : decode cL_holds 335 = .ok (.iload 9, 2) := by decide +kernel
theorem dL_holds_337 : decode cL_holds 337 = .ok (.bipush 7, 2) := by decide +kernel
theorem dL_holds_339 : decode cL_holds 339 = .ok (.invokevirtual 20, 3) := by decide +kernel
theorem dL_holds_342 : decode cL_holds 342 = .ok (.ifCond .lt 79, 3) := by decide +kernel
theorem dL_holds_345 : decode cL_holds 345 = .ok (.aload_n 0, 1) := by decide +kernel
theorem dL_holds_346 : decode cL_holds 346 = .ok (.iload 9, 2) := by decide +kernel
theorem dL_holds_348 : decode cL_holds 348 = .ok (.bipush 7, 2) := by decide +kernel
theorem dL_holds_350 : decode cL_holds 350 = .ok (.invokevirtual 20, 3) := by decide +kernel
theorem dL_holds_353 : decode cL_holds 353 = .ok (.aload_n 0, 1) := by decide +kernel
theorem dL_holds_354 : decode cL_holds 354 = .ok (.iload 9, 2) := by decide +kernel
theorem dL_holds_356 : decode cL_holds 356 = .ok (.iconst 2, 1) := by decide +kernel
theorem dL_holds_357 : decode cL_holds 357 = .ok (.invokevirtual 20, 3) := by decide +kernel
theorem dL_holds_360 : decode cL_holds 360 = .ok (.if_icmp .gt 61, 3) := by decide +kernel
theorem dL_holds_363 : decode cL_holds 363 = .ok (.iload 9, 2) := by decide +kernel
theorem dL_holds_365 : decode cL_holds 365 = .ok (.ifCond .eq 52, 3) := by decide +kernel
theorem dL_holds_368 : decode cL_holds 368 = .ok (.aload_n 0, 1) := by decide +kernel
theorem dL_holds_369 : decode cL_holds 369 = .ok (.aload_n 0, 1) := by decide +kernel
theorem dL_holds_370 : decode cL_holds 370 = .ok (.iload 9, 2) := by decide +kernel
theorem dL_holds_372 : decode cL_holds 372 = .ok (.iconst 0, 1) := by decide +kernel
theorem dL_holds_373 : decode cL_holds 373 = .ok (.invokevirtual 20, 3) := by decide +kernel
theorem dL_holds_376 : decode cL_holds 376 = .ok (.bipush 6, 2) := by decide +kernel
theorem dL_holds_378 : decode cL_holds 378 = .ok (.invokevirtual 20, 3) := by decide +kernel
theorem dL_holds_381 : decode cL_holds 381 = .ok (.iload 9, 2) := by decide +kernel
theorem dL_holds_383 : decode cL_holds 383 = .ok (.ishr, 1) := by decide +kernel
theorem dL_holds_384 : decode cL_holds 384 = .ok (.iconst 1, 1) := by decide +kernel
theorem dL_holds_385 : decode cL_holds 385 = .ok (.iand, 1) := by decide +kernel
theorem dL_holds_386 : decode cL_holds 386 = .ok (.iconst 1, 1) := by decide +kernel
theorem dL_holds_387 : decode cL_holds 387 = .ok (.if_icmp .ne 34, 3) := by decide +kernel
theorem dL_holds_390 : decode cL_holds 390 = .ok (.aload_n 0, 1) := by decide +kernel
theorem dL_holds_391 : decode cL_holds 391 = .ok (.iload 9, 2) := by decide +kernel
theorem dL_holds_393 : decode cL_holds 393 = .ok (.bipush 6, 2) := by decide +kernel
theorem dL_holds_395 : decode cL_holds 395 = .ok (.invokevirtual 20, 3) := by decide +kernel
theorem dL_holds_398 : decode cL_holds 398 = .ok (.aload_n 0, 1) := by decide +kernel
theorem dL_holds_399 : decode cL_holds 399 = .ok (.aload_n 0, 1) := by decide +kernel
theorem dL_holds_400 : decode cL_holds 400 = .ok (.iload 9, 2) := by decide +kernel
theorem dL_holds_402 : decode cL_holds 402 = .ok (.iconst 0, 1) := by decide +kernel
theorem dL_holds_403 : decode cL_holds 403 = .ok (.invokevirtual 20, 3) := by decide +kernel
theorem dL_holds_406 : decode cL_holds 406 = .ok (.bipush 6, 2) := by decide +kernel
theorem dL_holds_408 : decode cL_holds 408 = .ok (.invokevirtual 20, 3) := by decide +kernel
theorem dL_holds_411 : decode cL_holds 411 = .ok (.iconst (-1), 1) := by decide +kernel
theorem dL_holds_412 : decode cL_holds 412 = .ok (.ixor, 1) := by decide +kernel
theorem dL_holds_413 : decode cL_holds 413 = .ok (.iand, 1) := by decide +kernel
theorem dL_holds_414 : decode cL_holds 414 = .ok (.ifCond .ne 7, 3) := by decide +kernel
theorem dL_holds_417 : decode cL_holds 417 = .ok (.iconst 1, 1) := by decide +kernel
theorem dL_holds_418 : decode cL_holds 418 = .ok (.goto 4, 3) := by decide +kernel
theorem dL_holds_421 : decode cL_holds 421 = .ok (.iconst 0, 1) := by decide +kernel
theorem dL_holds_422 : decode cL_holds 422 = .ok (.istore 8, 2) := by decide +kernel
theorem dL_holds_424 : decode cL_holds 424 = .ok (.iinc 9 1, 3) := by decide +kernel
theorem dL_holds_427 : decode cL_holds 427 = .ok (.goto (-181), 3) := by decide +kernel
theorem dL_holds_430 : decode cL_holds 430 = .ok (.iload 8, 2) := by decide +kernel
theorem dL_holds_432 : decode cL_holds 432 = .ok (.ifCond .eq 109, 3) := by decide +kernel
theorem dL_holds_435 : decode cL_holds 435 = .ok (.aload_n 0, 1) := by decide +kernel
theorem dL_holds_436 : decode cL_holds 436 = .ok (.bipush 8, 2) := by decide +kernel
theorem dL_holds_438 : decode cL_holds 438 = .ok (.invokevirtual 9, 3) := by decide +kernel
theorem dL_holds_441 : decode cL_holds 441 = .ok (.iload_n 1, 1) := by decide +kernel
theorem dL_holds_442 : decode cL_holds 442 = .ok (.if_icmp .ne 99, 3) := by decide +kernel
theorem dL_holds_445 : decode cL_holds 445 = .ok (.aload_n 0, 1) := by decide +kernel
theorem dL_holds_446 : decode cL_holds 446 = .ok (.iconst 2, 1) := by decide +kernel
theorem dL_holds_447 : decode cL_holds 447 = .ok (.invokevirtual 9, 3) := by decide +kernel
theorem dL_holds_450 : decode cL_holds 450 = .ok (.iload_n 2, 1) := by decide +kernel
theorem dL_holds_451 : decode cL_holds 451 = .ok (.if_icmp .ne 90, 3) := by decide +kernel
theorem dL_holds_454 : decode cL_holds 454 = .ok (.aload_n 0, 1) := by decide +kernel
theorem dL_holds_455 : decode cL_holds 455 = .ok (.iconst 3, 1) := by decide +kernel
theorem dL_holds_456 : decode cL_holds 456 = .ok (.invokevirtual 9, 3) := by decide +kernel
theorem dL_holds_459 : decode cL_holds 459 = .ok (.iload_n 3, 1) := by decide +kernel
theorem dL_holds_460 : decode cL_holds 460 = .ok (.if_icmp .ne 81, 3) := by decide +kernel
theorem dL_holds_463 : decode cL_holds 463 = .ok (.aload_n 0, 1) := by decide +kernel
theorem dL_holds_464 : decode cL_holds 464 = .ok (.bipush 9, 2) := by decide +kernel
theorem dL_holds_466 : decode cL_holds 466 = .ok (.invokevirtual 9, 3) := by decide +kernel
theorem dL_holds_469 : decode cL_holds 469 = .ok (.iload 4, 2) := by decide +kernel
theorem dL_holds_471 : decode cL_holds 471 = .ok (.if_icmp .ne 70, 3) := by decide +kernel
theorem dL_holds_474 : decode cL_holds 474 = .ok (.aload_n 0, 1) := by decide +kernel
theorem dL_holds_475 : decode cL_holds 475 = .ok (.bipush 10, 2) := by decide +kernel
theorem dL_holds_477 : decode cL_holds 477 = .ok (.invokevirtual 9, 3) := by decide +kernel
theorem dL_holds_480 : decode cL_holds 480 = .ok (.iload 5, 2) := by decide +kernel
theorem dL_holds_482 : decode cL_holds 482 = .ok (.if_icmp .ne 59, 3) := by decide +kernel
theorem dL_holds_485 : decode cL_holds 485 = .ok (.aload_n 0, 1) := by decide +kernel
theorem dL_holds_486 : decode cL_holds 486 = .ok (.iconst 4, 1) := by decide +kernel
theorem dL_holds_487 : decode cL_holds 487 = .ok (.invokevirtual 9, 3) := by decide +kernel
theorem dL_holds_490 : decode cL_holds 490 = .ok (.iload 6, 2) := by decide +kernel
theorem dL_holds_492 : decode cL_holds 492 = .ok (.if_icmp .ne 49, 3) := by decide +kernel
theorem dL_holds_495 : decode cL_holds 495 = .ok (.aload_n 0, 1) := by decide +kernel
theorem dL_holds_496 : decode cL_holds 496 = .ok (.iconst 5, 1) := by decide +kernel
theorem dL_holds_497 : decode cL_holds 497 = .ok (.invokevirtual 9, 3) := by decide +kernel
theorem dL_holds_500 : decode cL_holds 500 = .ok (.iload 7, 2) := by decide +kernel
theorem dL_holds_502 : decode cL_holds 502 = .ok (.if_icmp .ne 39, 3) := by decide +kernel
theorem dL_holds_505 : decode cL_holds 505 = .ok (.aload_n 0, 1) := by decide +kernel
theorem dL_holds_506 : decode cL_holds 506 = .ok (.iconst 0, 1) := by decide +kernel
theorem dL_holds_507 : decode cL_holds 507 = .ok (.invokevirtual 23, 3) := by decide +kernel
theorem dL_holds_510 : decode cL_holds 510 = .ok (.ldc 19, 2) := by decide +kernel
theorem dL_holds_512 : decode cL_holds 512 = .ok (.if_icmp .ne 7, 3) := by decide +kernel
theorem dL_holds_515 : decode cL_holds 515 = .ok (.iconst 1, 1) := by decide +kernel
theorem dL_holds_516 : decode cL_holds 516 = .ok (.goto 4, 3) := by decide +kernel
theorem dL_holds_519 : decode cL_holds 519 = .ok (.iconst 0, 1) := by decide +kernel
theorem dL_holds_520 : decode cL_holds 520 = .ok (.aload_n 0, 1) := by decide +kernel
theorem dL_holds_521 : decode cL_holds 521 = .ok (.bipush 7, 2) := by decide +kernel
theorem dL_holds_523 : decode cL_holds 523 = .ok (.invokevirtual 9, 3) := by decide +kernel
theorem dL_holds_526 : decode cL_holds 526 = .ok (.ifCond .ne 7, 3) := by decide +kernel
theorem dL_holds_529 : decode cL_holds 529 = .ok (.iconst 1, 1) := by decide +kernel
theorem dL_holds_530 : decode cL_holds 530 = .ok (.goto 4, 3) := by decide +kernel
theorem dL_holds_533 : decode cL_holds 533 = .ok (.iconst 0, 1) := by decide +kernel
theorem dL_holds_534 : decode cL_holds 534 = .ok (.if_icmp .ne 7, 3) := by decide +kernel
theorem dL_holds_537 : decode cL_holds 537 = .ok (.iconst 1, 1) := by decide +kernel
theorem dL_holds_538 : decode cL_holds 538 = .ok (.goto 4, 3) := by decide +kernel
theorem dL_holds_541 : decode cL_holds 541 = .ok (.iconst 0, 1) := by decide +kernel
theorem dL_holds_542 : decode cL_holds 542 = .ok (.ireturn, 1) := by decide +kernel
theorem dL_hour_0 : decode cL_hour 0 = .ok (.bipush 10, 2) := by decide +kernel
theorem dL_hour_2 : decode cL_hour 2 = .ok (.newarray .int, 2) := by decide +kernel
theorem dL_hour_4 : decode cL_hour 4 = .ok (.astore_n 2, 1) := by decide +kernel
theorem dL_hour_5 : decode cL_hour 5 = .ok (.bipush 10, 2) := by decide +kernel
theorem dL_hour_7 : decode cL_hour 7 = .ok (.newarray .int, 2) := by decide +kernel
theorem dL_hour_9 : decode cL_hour 9 = .ok (.astore_n 3, 1) := by decide +kernel
theorem dL_hour_10 : decode cL_hour 10 = .ok (.aload_n 0, 1) := by decide +kernel
theorem dL_hour_11 : decode cL_hour 11 = .ok (.iconst 4, 1) := by decide +kernel
theorem dL_hour_12 : decode cL_hour 12 = .ok (.invokevirtual 9, 3) := by decide +kernel
theorem dL_hour_15 : decode cL_hour 15 = .ok (.istore 4, 2) := by decide +kernel
theorem dL_hour_17 : decode cL_hour 17 = .ok (.aload_n 0, 1) := by decide +kernel
theorem dL_hour_18 : decode cL_hour 18 = .ok (.bipush 6, 2) := by decide +kernel
theorem dL_hour_20 : decode cL_hour 20 = .ok (.invokevirtual 9, 3) := by decide +kernel
theorem dL_hour_23 : decode cL_hour 23 = .ok (.istore 5, 2) := by decide +kernel
theorem dL_hour_25 : decode cL_hour 25 = .ok (.aload_n 0, 1) := by decide +kernel
theorem dL_hour_26 : decode cL_hour 26 = .ok (.bipush 7, 2) := by decide +kernel
theorem dL_hour_28 : decode cL_hour 28 = .ok (.invokevirtual 9, 3) := by decide +kernel
theorem dL_hour_31 : decode cL_hour 31 = .ok (.istore 6, 2) := by decide +kernel
theorem dL_hour_33 : decode cL_hour 33 = .ok (.aload_n 0, 1) := by decide +kernel
theorem dL_hour_34 : decode cL_hour 34 = .ok (.bipush 8, 2) := by decide +kernel
theorem dL_hour_36 : decode cL_hour 36 = .ok (.invokevirtual 9, 3) := by decide +kernel
theorem dL_hour_39 : decode cL_hour 39 = .ok (.istore 7, 2) := by decide +kernel
theorem dL_hour_41 : decode cL_hour 41 = .ok (.iconst 0, 1) := by decide +kernel
theorem dL_hour_42 : decode cL_hour 42 = .ok (.istore 8, 2) := by decide +kernel
theorem dL_hour_44 : decode cL_hour 44 = .ok (.iload 8, 2) := by decide +kernel
theorem dL_hour_46 : decode cL_hour 46 = .ok (.aload_n 0, 1) := by decide +kernel
theorem dL_hour_47 : decode cL_hour 47 = .ok (.iconst 1, 1) := by decide +kernel
theorem dL_hour_48 : decode cL_hour 48 = .ok (.invokevirtual 9, 3) := by decide +kernel
theorem dL_hour_51 : decode cL_hour 51 = .ok (.if_icmp .ge 32, 3) := by decide +kernel
theorem dL_hour_54 : decode cL_hour 54 = .ok (.aload_n 2, 1) := by decide +kernel
theorem dL_hour_55 : decode cL_hour 55 = .ok (.iload 8, 2) := by decide +kernel
theorem dL_hour_57 : decode cL_hour 57 = .ok (.aload_n 0, 1) := by decide +kernel
theorem dL_hour_58 : decode cL_hour 58 = .ok (.iload 8, 2) := by decide +kernel
theorem dL_hour_60 : decode cL_hour 60 = .ok (.iconst 4, 1) := by decide +kernel
theorem dL_hour_61 : decode cL_hour 61 = .ok (.invokevirtual 15, 3) := by decide +kernel
theorem dL_hour_64 : decode cL_hour 64 = .ok (.iastore, 1) := by decide +kernel
theorem dL_hour_65 : decode cL_hour 65 = .ok (.aload_n 3, 1) := by decide +kernel
theorem dL_hour_66 : decode cL_hour 66 = .ok (.iload 8, 2) := by decide +kernel
theorem dL_hour_68 : decode cL_hour 68 = .ok (.aload_n 0, 1) := by decide +kernel
theorem dL_hour_69 : decode cL_hour 69 = .ok (.iload 8, 2) := by decide +kernel
theorem dL_hour_71 : decode cL_hour 71 = .ok (.bipush 6, 2) := by decide +kernel
theorem dL_hour_73 : decode cL_hour 73 = .ok (.invokevirtual 15, 3) := by decide +kernel
theorem dL_hour_76 : decode cL_hour 76 = .ok (.iastore, 1) := by decide +kernel
theorem dL_hour_77 : decode cL_hour 77 = .ok (.iinc 8 1, 3) := by decide +kernel
theorem dL_hour_80 : decode cL_hour 80 = .ok (.goto (-36), 3) := by decide +kernel
theorem dL_hour_83 : decode cL_hour 83 = .ok (.aload_n 0, 1) := by decide +kernel
theorem dL_hour_84 : decode cL_hour 84 = .ok (.iload_n 1, 1) := by decide +kernel
theorem dL_hour_85 : decode cL_hour 85 = .ok (.invokevirtual 26, 3) := by decide +kernel
theorem dL_hour_88 : decode cL_hour 88 = .ok (.istore 8, 2) := by decide +kernel
theorem dL_hour_90 : decode cL_hour 90 = .ok (.iload 8, 2) := by decide +kernel
theorem dL_hour_92 : decode cL_hour 92 = .ok (.aload_n 0, 1) := by decide +kernel
theorem dL_hour_93 : decode cL_hour 93 = .ok (.bipush 8, 2) := by decide +kernel
theorem dL_hour_95 : decode cL_hour 95 = .ok (.invokevirtual 9, 3) := by decide +kernel
theorem dL_hour_98 : decode cL_hour 98 = .ok (.iload 7, 2) := by decide +kernel
theorem dL_hour_100 : decode cL_hour 100 = .ok (.isub, 1) := by decide +kernel
theorem dL_hour_101 : decode cL_hour 101 = .ok (.if_icmp .ne 80, 3) := by decide +kernel
theorem dL_hour_104 : decode cL_hour 104 = .ok (.aload_n 0, 1) := by decide +kernel
theorem dL_hour_105 : decode cL_hour 105 = .ok (.bipush 6, 2) := by decide +kernel
theorem dL_hour_107 : decode cL_hour 107 = .ok (.invokevirtual 9, 3) := by decide +kernel
theorem dL_hour_110 : decode cL_hour 110 = .ok (.iload 5, 2) := by decide +kernel
theorem dL_hour_112 : decode cL_hour 112 = .ok (.iconst 1, 1) := by decide +kernel
theorem dL_hour_113 : decode cL_hour 113 = .ok (.iadd, 1) := by decide +kernel
theorem dL_hour_114 : decode cL_hour 114 = .ok (.if_icmp .ne 67, 3) := by decide +kernel
theorem dL_hour_117 : decode cL_hour 117 = .ok (.aload_n 0, 1) := by decide +kernel
theorem dL_hour_118 : decode cL_hour 118 = .ok (.bipush 7, 2) := by decide +kernel
theorem dL_hour_120 : decode cL_hour 120 = .ok (.invokevirtual 9, 3) := by decide +kernel
theorem dL_hour_123 : decode cL_hour 123 = .ok (.iload 6, 2) := by decide +kernel
theorem dL_hour_125 : decode cL_hour 125 = .ok (.iload_n 1, 1) := by decide +kernel
theorem dL_hour_126 : decode cL_hour 126 = .ok (.sipush 200, 3) := by decide +kernel
theorem dL_hour_129 : decode cL_hour 129 = .ok (.if_icmp .ge 7, 3) := by decide +kernel
theorem dL_hour_132 : decode cL_hour 132 = .ok (.iload_n 1, 1) := by decide +kernel
theorem dL_hour_133 : decode cL_hour 133 = .ok (.goto 6, 3) := by decide +kernel
theorem dL_hour_136 : decode cL_hour 136 = .ok (.sipush 200, 3) := by decide +kernel
theorem dL_hour_139 : decode cL_hour 139 = .ok (.iadd, 1) := by decide +kernel
theorem dL_hour_140 : decode cL_hour 140 = .ok (.if_icmp .ne 41, 3) := by decide +kernel
theorem dL_hour_143 : decode cL_hour 143 = .ok (.aload_n 0, 1) := by decide +kernel
theorem dL_hour_144 : decode cL_hour 144 = .ok (.iconst 4, 1) := by decide +kernel
theorem dL_hour_145 : decode cL_hour 145 = .ok (.invokevirtual 9, 3) := by decide +kernel
theorem dL_hour_148 : decode cL_hour 148 = .ok (.iload 4, 2) := by decide +kernel
theorem dL_hour_150 : decode cL_hour 150 = .ok (.if_icmp .ne 31, 3) := by decide +kernel
theorem dL_hour_153 : decode cL_hour 153 = .ok (.aload_n 0, 1) := by decide +kernel
theorem dL_hour_154 : decode cL_hour 154 = .ok (.iconst 0, 1) := by decide +kernel
theorem dL_hour_155 : decode cL_hour 155 = .ok (.bipush 7, 2) := by decide +kernel
theorem dL_hour_157 : decode cL_hour 157 = .ok (.invokevirtual 20, 3) := by decide +kernel
theorem dL_hour_160 : decode cL_hour 160 = .ok (.iload_n 1, 1) := by decide +kernel
theorem dL_hour_161 : decode cL_hour 161 = .ok (.sipush 200, 3) := by decide +kernel
theorem dL_hour_164 : decode cL_hour 164 = .ok (.if_icmp .ge 7, 3) := by decide +kernel
theorem dL_hour_167 : decode cL_hour 167 = .ok (.iload_n 1, 1) := by decide +kernel
theorem dL_hour_168 : decode cL_hour 168 = .ok (.goto 6, 3) := by decide +kernel
theorem dL_hour_171 : decode cL_hour 171 = .ok (.sipush 200, 3) := by decide +kernel
theorem dL_hour_174 : decode cL_hour 174 = .ok (.if_icmp .ne 7, 3) := by decide +kernel
theorem dL_hour_177 : decode cL_hour 177 = .ok (.iconst 1, 1) := by decide +kernel
theorem dL_hour_178 : decode cL_hour 178 = .ok (.goto 4, 3) := by decide +kernel
theorem dL_hour_181 : decode cL_hour 181 = .ok (.iconst 0, 1) := by decide +kernel
theorem dL_hour_182 : decode cL_hour 182 = .ok (.istore 9, 2) := by decide +kernel
theorem dL_hour_184 : decode cL_hour 184 = .ok (.iconst 0, 1) := by decide +kernel
theorem dL_hour_185 : decode cL_hour 185 = .ok (.istore 10, 2) := by decide +kernel
theorem dL_hour_187 : decode cL_hour 187 = .ok (.iload 10, 2) := by decide +kernel
theorem dL_hour_189 : decode cL_hour 189 = .ok (.aload_n 0, 1) := by decide +kernel
theorem dL_hour_190 : decode cL_hour 190 = .ok (.iconst 1, 1) := by decide +kernel
theorem dL_hour_191 : decode cL_hour 191 = .ok (.invokevirtual 9, 3) := by decide +kernel
theorem dL_hour_194 : decode cL_hour 194 = .ok (.if_icmp .ge 138, 3) := by decide +kernel
theorem dL_hour_197 : decode cL_hour 197 = .ok (.iload 9, 2) := by decide +kernel
theorem dL_hour_199 : decode cL_hour 199 = .ok (.ifCond .eq 133, 3) := by decide +kernel
theorem dL_hour_202 : decode cL_hour 202 = .ok (.aload_n 0, 1) := by decide +kernel
theorem dL_hour_203 : decode cL_hour 203 = .ok (.iload 10, 2) := by decide +kernel
theorem dL_hour_205 : decode cL_hour 205 = .ok (.iconst 4, 1) := by decide +kernel
theorem dL_hour_206 : decode cL_hour 206 = .ok (.invokevirtual 15, 3) := by decide +kernel
theorem dL_hour_209 : decode cL_hour 209 = .ok (.aload_n 2, 1) := by decide +kernel
theorem dL_hour_210 : decode cL_hour 210 = .ok (.iload 10, 2) := by decide +kernel
theorem dL_hour_212 : decode cL_hour 212 = .ok (.iaload, 1) := by decide +kernel
theorem dL_hour_213 : decode cL_hour 213 = .ok (.isub, 1) := by decide +kernel
theorem dL_hour_214 : decode cL_hour 214 = .ok (.istore 11, 2) := by decide +kernel
theorem dL_hour_216 : decode cL_hour 216 = .ok (.iconst 1, 1) := by decide +kernel
theorem dL_hour_217 : decode cL_hour 217 = .ok (.istore 12, 2) := by decide +kernel
theorem dL_hour_219 : decode cL_hour 219 = .ok (.aload_n 0, 1) := by decide +kernel
theorem dL_hour_220 : decode cL_hour 220 = .ok (.iload 10, 2) := by decide +kernel
theorem dL_hour_222 : decode cL_hour 222 = .ok (.iconst 0, 1) := by decide +kernel
theorem dL_hour_223 : decode cL_hour 223 = .ok (.invokevirtual 15, 3) := by decide +kernel
theorem dL_hour_226 : decode cL_hour 226 = .ok (.istore 13, 2) := by decide +kernel
theorem dL_hour_228 : decode cL_hour 228 = .ok (.iload 13, 2) := by decide +kernel
theorem dL_hour_230 : decode cL_hour 230 = .ok (.ifCond .le 36, 3) := by decide +kernel
theorem dL_hour_233 : decode cL_hour 233 = .ok (.iload 12, 2) := by decide +kernel
theorem dL_hour_235 : decode cL_hour 235 = .ok (.iload 4, 2) := by decide +kernel
theorem dL_hour_237 : decode cL_hour 237 = .ok (.iload 13, 2) := by decide +kernel
theorem dL_hour_239 : decode cL_hour 239 = .ok (.ishr, 1) := by decide +kernel
theorem dL_hour_240 : decode cL_hour 240 = .ok (.iconst 1, 1) := by decide +kernel
theorem dL_hour_241 : decode cL_hour 241 = .ok (.iand, 1) := by decide +kernel
theorem dL_hour_242 : decode cL_hour 242 = .ok (.iconst 1, 1) := by decide +kernel
theorem dL_hour_243 : decode cL_hour 243 = .ok (.if_icmp .ne 7, 3) := by decide +kernel
theorem dL_hour_246 : decode cL_hour 246 = .ok (.iconst 1, 1) := by decide +kernel
theorem dL_hour_247 : decode cL_hour 247 = .ok (.goto 4, 3) := by decide +kernel
theorem dL_hour_250 : decode cL_hour 250 = .ok (.iconst 0, 1) := by decide +kernel
theorem dL_hour_251 : decode cL_hour 251 = .ok (.iand, 1) := by decide +kernel
theorem dL_hour_252 : decode cL_hour 252 = .ok (.istore 12, 2) := by decide +kernel
theorem dL_hour_254 : decode cL_hour 254 = .ok (.aload_n 0, 1) := by decide +kernel
theorem dL_hour_255 : decode cL_hour 255 = .ok (.iload 13, 2) := by decide +kernel
theorem dL_hour_257 : decode cL_hour 257 = .ok (.iconst 0, 1) := by decide +kernel
theorem dL_hour_258 : decode cL_hour 258 = .ok (.invokevirtual 20, 3) := by decide +kernel
theorem dL_hour_261 : decode cL_hour 261 = .ok (.istore 13, 2) := by decide +kernel
theorem dL_hour_263 : decode cL_hour 263 = .ok (.goto (-35), 3) := by decide +kernel
theorem dL_hour_266 : decode cL_hour 266 = .ok (.iload 11, 2) := by decide +kernel
theorem dL_hour_268 : decode cL_hour 268 = .ok (.ifCond .lt 55, 3) := by decide +kernel
theorem dL_hour_271 : decode cL_hour 271 = .ok (.iload 11, 2) := by decide +kernel
theorem dL_hour_273 : decode cL_hour 273 = .ok (.aload_n 0, 1) := by decide +kernel
theorem dL_hour_274 : decode cL_hour 274 = .ok (.iload 10, 2) := by decide +kernel
theorem dL_hour_276 : decode cL_hour 276 = .ok (.iconst 2, 1) := by decide +kernel
theorem dL_hour_277 : decode cL_hour 277 = .ok (.invokevirtual 15, 3) := by decide +kernel
theorem dL_hour_280 : decode cL_hour 280 = .ok (.if_icmp .gt 43, 3) := by decide +kernel
theorem dL_hour_283 : decode cL_hour 283 = .ok (.iload 11, 2) := by decide +kernel
theorem dL_hour_285 : decode cL_hour 285 = .ok (.ifCond .eq 34, 3) := by decide +kernel
theorem dL_hour_288 : decode cL_hour 288 = .ok (.aload_n 3, 1) := by decide +kernel
theorem dL_hour_289 : decode cL_hour 289 = .ok (.iload 10, 2) := by decide +kernel
theorem dL_hour_291 : decode cL_hour 291 = .ok (.iaload, 1) := by decide +kernel
theorem dL_hour_292 : decode cL_hour 292 = .ok (.iconst 1, 1) := by decide +kernel
theorem dL_hour_293 : decode cL_hour 293 = .ok (.if_icmp .ne 30, 3) := by decide +kernel
theorem dL_hour_296 : decode cL_hour 296 = .ok (.iload 12, 2) := by decide +kernel
theorem dL_hour_298 : decode cL_hour 298 = .ok (.ifCond .eq 25, 3) := by decide +kernel
theorem dL_hour_301 : decode cL_hour 301 = .ok (.aload_n 0, 1) := by decide +kernel
theorem dL_hour_302 : decode cL_hour 302 = .ok (.aload_n 0, 1) := by decide +kernel
theorem dL_hour_303 : decode cL_hour 303 = .ok (.iload 10, 2) := by decide +kernel
theorem dL_hour_305 : decode cL_hour 305 = .ok (.iconst 0, 1) := by decide +kernel
theorem dL_hour_306 : decode cL_hour 306 = .ok (.invokevirtual 15, 3) := by decide +kernel
theorem dL_hour_309 : decode cL_hour 309 = .ok (.bipush 7, 2) := by decide +kernel
theorem dL_hour_311 : decode cL_hour 311 = .ok (.invokevirtual 20, 3) := by decide +kernel
theorem dL_hour_314 : decode cL_hour 314 = .ok (.iload 11, 2) := by decide +kernel
theorem dL_hour_316 : decode cL_hour 316 = .ok (.if_icmp .lt 7, 3) := by decide +kernel
theorem dL_hour_319 : decode cL_hour 319 = .ok (.iconst 1, 1) := by decide +kernel
theorem dL_hour_320 : decode cL_hour 320 = .ok (.goto 4, 3) := by decide +kernel
theorem dL_hour_323 : decode cL_hour 323 = .ok (.iconst 0, 1) := by decide +kernel
theorem dL_hour_324 : decode cL_hour 324 = .ok (.istore 9, 2) := by decide +kernel
theorem dL_hour_326 : decode cL_hour 326 = .ok (.iinc 10 1, 3) := by decide +kernel
theorem dL_hour_329 : decode cL_hour 329 = .ok (.goto (-142), 3) := by decide +kernel
theorem dL_hour_332 : decode cL_hour 332 = .ok (.iconst 1, 1) := by decide +kernel
theorem dL_hour_333 : decode cL_hour 333 = .ok (.istore 10, 2) := by decide +kernel
theorem dL_hour_335 : decode cL_hour 335 = .ok (.iload 10, 2) := by decide +kernel
theorem dL_hour_337 : decode cL_hour 337 = .ok (.aload_n 0, 1) := by decide +kernel
theorem dL_hour_338 : decode cL_hour 338 = .ok (.iconst 0, 1) := by decide +kernel
theorem dL_hour_339 : decode cL_hour 339 = .ok (.invokevirtual 9, 3) := by decide +kernel
theorem dL_hour_342 : decode cL_hour 342 = .ok (.if_icmp .ge 67, 3) := by decide +kernel
theorem dL_hour_345 : decode cL_hour 345 = .ok (.iload 9, 2) := by decide +kernel
theorem dL_hour_347 : decode cL_hour 347 = .ok (.ifCond .eq 62, 3) := by decide +kernel
theorem dL_hour_350 : decode cL_hour 350 = .ok (.aload_n 0, 1) := by decide +kernel
theorem dL_hour_351 : decode cL_hour 351 = .ok (.iload 10, 2) := by decide +kernel
theorem dL_hour_353 : decode cL_hour 353 = .ok (.bipush 7, 2) := by decide +kernel
theorem dL_hour_355 : decode cL_hour 355 = .ok (.invokevirtual 20, 3) := by decide +kernel
theorem dL_hour_358 : decode cL_hour 358 = .ok (.ifCond .eq 38, 3) := by decide +kernel
theorem dL_hour_361 : decode cL_hour 361 = .ok (.iload 4, 2) := by decide +kernel
theorem dL_hour_363 : decode cL_hour 363 = .ok (.iload 10, 2) := by decide +kernel
theorem dL_hour_365 : decode cL_hour 365 = .ok (.ishr, 1) := by decide +kernel
theorem dL_hour_366 : decode cL_hour 366 = .ok (.iconst 1, 1) := by decide +kernel
theorem dL_hour_367 : decode cL_hour 367 = .ok (.iand, 1) := by decide +kernel
theorem dL_hour_368 : decode cL_hour 368 = .ok (.iconst 1, 1) := by decide +kernel
theorem dL_hour_369 : decode cL_hour 369 = .ok (.if_icmp .ne 31, 3) := by decide +kernel
theorem dL_hour_372 : decode cL_hour 372 = .ok (.aload_n 0, 1) := by decide +kernel
theorem dL_hour_373 : decode cL_hour 373 = .ok (.iload 10, 2) := by decide +kernel
theorem dL_hour_375 : decode cL_hour 375 = .ok (.bipush 7, 2) := by decide +kernel
theorem dL_hour_377 : decode cL_hour 377 = .ok (.invokevirtual 20, 3) := by decide +kernel
theorem dL_hour_380 : decode cL_hour 380 = .ok (.aload_n 0, 1) := by decide +kernel
theorem dL_hour_381 : decode cL_hour 381 = .ok (.aload_n 0, 1) := by decide +kernel
theorem dL_hour_382 : decode cL_hour 382 = .ok (.iload 10, 2) := by decide +kernel
theorem dL_hour_384 : decode cL_hour 384 = .ok (.iconst 0, 1) := by decide +kernel
theorem dL_hour_385 : decode cL_hour 385 = .ok (.invokevirtual 20, 3) := by decide +kernel
theorem dL_hour_388 : decode cL_hour 388 = .ok (.bipush 7, 2) := by decide +kernel
theorem dL_hour_390 : decode cL_hour 390 = .ok (.invokevirtual 20, 3) := by decide +kernel
theorem dL_hour_393 : decode cL_hour 393 = .ok (.if_icmp .gt 7, 3) := by decide +kernel
theorem dL_hour_396 : decode cL_hour 396 = .ok (.iconst 1, 1) := by decide +kernel
theorem dL_hour_397 : decode cL_hour 397 = .ok (.goto 4, 3) := by decide +kernel
theorem dL_hour_400 : decode cL_hour 400 = .ok (.iconst 0, 1) := by decide +kernel
theorem dL_hour_401 : decode cL_hour 401 = .ok (.istore 9, 2) := by decide +kernel
theorem dL_hour_403 : decode cL_hour 403 = .ok (.iinc 10 1, 3) := by decide +kernel
theorem dL_hour_406 : decode cL_hour 406 = .ok (.goto (-71), 3) := by decide +kernel
theorem dL_hour_409 : decode cL_hour 409 = .ok (.iload 9, 2) := by decide +kernel
theorem dL_hour_411 : decode cL_hour 411 = .ok (.ireturn, 1) := by decide +kernel
theorem dL_acts_0 : decode cL_acts 0 = .ok (.iload_n 1, 1) := by decide +kernel
theorem dL_acts_1 : decode cL_acts 1 = .ok (.bipush 8, 2) := by decide +kernel
theorem dL_acts_3 : decode cL_acts 3 = .ok (.idiv, 1) := by decide +kernel
theorem dL_acts_4 : decode cL_acts 4 = .ok (.istore_n 2, 1) := by decide +kernel
theorem dL_acts_5 : decode cL_acts 5 = .ok (.iload_n 1, 1) := by decide +kernel
theorem dL_acts_6 : decode cL_acts 6 = .ok (.bipush 8, 2) := by decide +kernel
theorem dL_acts_8 : decode cL_acts 8 = .ok (.irem, 1) := by decide +kernel
theorem dL_acts_9 : decode cL_acts 9 = .ok (.tableswitch 528 0 5 #[39, 102, 174, 278, 278, 407], 39) := by decide +kernel
theorem dL_acts_48 : decode cL_acts 48 = .ok (.aload_n 0, 1) := by decide +kernel
theorem dL_acts_49 : decode cL_acts 49 = .ok (.iconst 0, 1) := by decide +kernel
theorem dL_acts_50 : decode cL_acts 50 = .ok (.invokevirtual 9, 3) := by decide +kernel
theorem dL_acts_53 : decode cL_acts 53 = .ok (.istore_n 3, 1) := by decide +kernel
theorem dL_acts_54 : decode cL_acts 54 = .ok (.aload_n 0, 1) := by decide +kernel
theorem dL_acts_55 : decode cL_acts 55 = .ok (.iload_n 2, 1) := by decide +kernel
theorem dL_acts_56 : decode cL_acts 56 = .ok (.iload_n 3, 1) := by decide +kernel
theorem dL_acts_57 : decode cL_acts 57 = .ok (.irem, 1) := by decide +kernel
theorem dL_acts_58 : decode cL_acts 58 = .ok (.iload_n 2, 1) := by decide +kernel
theorem dL_acts_59 : decode cL_acts 59 = .ok (.bipush 8, 2) := by decide +kernel
theorem dL_acts_61 : decode cL_acts 61 = .ok (.idiv, 1) := by decide +kernel
theorem dL_acts_62 : decode cL_acts 62 = .ok (.iconst 3, 1) := by decide +kernel
theorem dL_acts_63 : decode cL_acts 63 = .ok (.irem, 1) := by decide +kernel
theorem dL_acts_64 : decode cL_acts 64 = .ok (.iconst 1, 1) := by decide +kernel
theorem dL_acts_65 : decode cL_acts 65 = .ok (.iload_n 2, 1) := by decide +kernel
theorem dL_acts_66 : decode cL_acts 66 = .ok (.bipush 32, 2) := by decide +kernel
theorem dL_acts_68 : decode cL_acts 68 = .ok (.idiv, 1) := by decide +kernel
theorem dL_acts_69 : decode cL_acts 69 = .ok (.sipush 200, 3) := by decide +kernel
theorem dL_acts_72 : decode cL_acts 72 = .ok (.irem, 1) := by decide +kernel
theorem dL_acts_73 : decode cL_acts 73 = .ok (.iadd, 1) := by decide +kernel
theorem dL_acts_74 : decode cL_acts 74 = .ok (.iload_n 2, 1) := by decide +kernel
theorem dL_acts_75 : decode cL_acts 75 = .ok (.sipush 8192, 3) := by decide +kernel
theorem dL_acts_78 : decode cL_acts 78 = .ok (.idiv, 1) := by decide +kernel
theorem dL_acts_79 : decode cL_acts 79 = .ok (.sipush 300, 3) := by decide +kernel
theorem dL_acts_82 : decode cL_acts 82 = .ok (.irem, 1) := by decide +kernel
theorem dL_acts_83 : decode cL_acts 83 = .ok (.invokevirtual 29, 3) := by decide +kernel
theorem dL_acts_86 : decode cL_acts 86 = .ok (.istore 4, 2) := by decide +kernel
theorem dL_acts_88 : decode cL_acts 88 = .ok (.iload 4, 2) := by decide +kernel
theorem dL_acts_90 : decode cL_acts 90 = .ok (.iload_n 3, 1) := by decide +kernel
theorem dL_acts_91 : decode cL_acts 91 = .ok (.bipush 8, 2) := by decide +kernel
theorem dL_acts_93 : decode cL_acts 93 = .ok (.if_icmp .ne 8, 3) := by decide +kernel
theorem dL_acts_96 : decode cL_acts 96 = .ok (.ldc 33, 2) := by decide +kernel
theorem dL_acts_98 : decode cL_acts 98 = .ok (.goto 4, 3) := by decide +kernel
theorem dL_acts_101 : decode cL_acts 101 = .ok (.iload_n 3, 1) := by decide +kernel
theorem dL_acts_102 : decode cL_acts 102 = .ok (.if_icmp .ne 7, 3) := by decide +kernel
theorem dL_acts_105 : decode cL_acts 105 = .ok (.iconst 1, 1) := by decide +kernel
theorem dL_acts_106 : decode cL_acts 106 = .ok (.goto 4, 3) := by decide +kernel
theorem dL_acts_109 : decode cL_acts 109 = .ok (.iconst 0, 1) := by decide +kernel
theorem dL_acts_110 : decode cL_acts 110 = .ok (.ireturn, 1) := by decide +kernel
theorem dL_acts_111 : decode cL_acts 111 = .ok (.aload_n 0, 1) := by decide +kernel
theorem dL_acts_112 : decode cL_acts 112 = .ok (.iconst 1, 1) := by decide +kernel
theorem dL_acts_113 : decode cL_acts 113 = .ok (.invokevirtual 9, 3) := by decide +kernel
theorem dL_acts_116 : decode cL_acts 116 = .ok (.istore 5, 2) := by decide +kernel
theorem dL_acts_118 : decode cL_acts 118 = .ok (.aload_n 0, 1) := by decide +kernel
theorem dL_acts_119 : decode cL_acts 119 = .ok (.iload_n 2, 1) := by decide +kernel
theorem dL_acts_120 : decode cL_acts 120 = .ok (.aload_n 0, 1) := by decide +kernel
theorem dL_acts_121 : decode cL_acts 121 = .ok (.iconst 0, 1) := by decide +kernel
theorem dL_acts_122 : decode cL_acts 122 = .ok (.invokevirtual 9, 3) := by decide +kernel
theorem dL_acts_125 : decode cL_acts 125 = .ok (.irem, 1) := by decide +kernel
theorem dL_acts_126 : decode cL_acts 126 = .ok (.iconst 1, 1) := by decide +kernel
theorem dL_acts_127 : decode cL_acts 127 = .ok (.iload_n 2, 1) := by decide +kernel
theorem dL_acts_128 : decode cL_acts 128 = .ok (.bipush 8, 2) := by decide +kernel
theorem dL_acts_130 : decode cL_acts 130 = .ok (.idiv, 1) := by decide +kernel
theorem dL_acts_131 : decode cL_acts 131 = .ok (.sipush 250, 3) := by decide +kernel
theorem dL_acts_134 : decode cL_acts 134 = .ok (.irem, 1) := by decide +kernel
theorem dL_acts_135 : decode cL_acts 135 = .ok (.iadd, 1) := by decide +kernel
theorem dL_acts_136 : decode cL_acts 136 = .ok (.iconst 1, 1) := by decide +kernel
theorem dL_acts_137 : decode cL_acts 137 = .ok (.iload_n 2, 1) := by decide +kernel
theorem dL_acts_138 : decode cL_acts 138 = .ok (.sipush 4096, 3) := by decide +kernel
theorem dL_acts_141 : decode cL_acts 141 = .ok (.idiv, 1) := by decide +kernel
theorem dL_acts_142 : decode cL_acts 142 = .ok (.bipush 80, 2) := by decide +kernel
theorem dL_acts_144 : decode cL_acts 144 = .ok (.irem, 1) := by decide +kernel
theorem dL_acts_145 : decode cL_acts 145 = .ok (.iadd, 1) := by decide +kernel
theorem dL_acts_146 : decode cL_acts 146 = .ok (.iload_n 2, 1) := by decide +kernel
theorem dL_acts_147 : decode cL_acts 147 = .ok (.ldc 34, 2) := by decide +kernel
theorem dL_acts_149 : decode cL_acts 149 = .ok (.idiv, 1) := by decide +kernel
theorem dL_acts_150 : decode cL_acts 150 = .ok (.bipush 100, 2) := by decide +kernel
theorem dL_acts_152 : decode cL_acts 152 = .ok (.irem, 1) := by decide +kernel
theorem dL_acts_153 : decode cL_acts 153 = .ok (.invokevirtual 35, 3) := by decide +kernel
theorem dL_acts_156 : decode cL_acts 156 = .ok (.istore 6, 2) := by decide +kernel
theorem dL_acts_158 : decode cL_acts 158 = .ok (.iload 6, 2) := by decide +kernel
theorem dL_acts_160 : decode cL_acts 160 = .ok (.iload 5, 2) := by decide +kernel
theorem dL_acts_162 : decode cL_acts 162 = .ok (.bipush 10, 2) := by decide +kernel
theorem dL_acts_164 : decode cL_acts 164 = .ok (.if_icmp .ne 8, 3) := by decide +kernel
theorem dL_acts_167 : decode cL_acts 167 = .ok (.ldc 33, 2) := by decide +kernel
theorem dL_acts_169 : decode cL_acts 169 = .ok (.goto 5, 3) := by decide +kernel
theorem dL_acts_172 : decode cL_acts 172 = .ok (.iload 5, 2) := by decide +kernel
theorem dL_acts_174 : decode cL_acts 174 = .ok (.if_icmp .ne 7, 3) := by decide +kernel
theorem dL_acts_177 : decode cL_acts 177 = .ok (.iconst 1, 1) := by decide +kernel
theorem dL_acts_178 : decode cL_acts 178 = .ok (.goto 4, 3) := by decide +kernel
theorem dL_acts_181 : decode cL_acts 181 = .ok (.iconst 0, 1) := by decide +kernel
theorem dL_acts_182 : decode cL_acts 182 = .ok (.ireturn, 1) := by decide +kernel
theorem dL_acts_183 : decode cL_acts 183 = .ok (.aload_n 0, 1) := by decide +kernel
theorem dL_acts_184 : decode cL_acts 184 = .ok (.iconst 1, 1) := by decide +kernel
theorem dL_acts_185 : decode cL_acts 185 = .ok (.invokevirtual 9, 3) := by decide +kernel
theorem dL_acts_188 : decode cL_acts 188 = .ok (.ifCond .ne 19, 3) := by decide +kernel
theorem dL_acts_191 : decode cL_acts 191 = .ok (.aload_n 0, 1) := by decide +kernel
theorem dL_acts_192 : decode cL_acts 192 = .ok (.iconst 0, 1) := by decide +kernel
theorem dL_acts_193 : decode cL_acts 193 = .ok (.invokevirtual 38, 3) := by decide +kernel
theorem dL_acts_196 : decode cL_acts 196 = .ok (.ldc 41, 2) := by decide +kernel
theorem dL_acts_198 : decode cL_acts 198 = .ok (.if_icmp .ne 7, 3) := by decide +kernel
theorem dL_acts_201 : decode cL_acts 201 = .ok (.iconst 1, 1) := by decide +kernel
theorem dL_acts_202 : decode cL_acts 202 = .ok (.goto 4, 3) := by decide +kernel
theorem dL_acts_205 : decode cL_acts 205 = .ok (.iconst 0, 1) := by decide +kernel
theorem dL_acts_206 : decode cL_acts 206 = .ok (.ireturn, 1) := by decide +kernel
theorem dL_acts_207 : decode cL_acts 207 = .ok (.iload_n 2, 1) := by decide +kernel
theorem dL_acts_208 : decode cL_acts 208 = .ok (.aload_n 0, 1) := by decide +kernel
theorem dL_acts_209 : decode cL_acts 209 = .ok (.iconst 1, 1) := by decide +kernel
theorem dL_acts_210 : decode cL_acts 210 = .ok (.invokevirtual 9, 3) := by decide +kernel
theorem dL_acts_213 : decode cL_acts 213 = .ok (.irem, 1) := by decide +kernel
theorem dL_acts_214 : decode cL_acts 214 = .ok (.istore 7, 2) := by decide +kernel
theorem dL_acts_216 : decode cL_acts 216 = .ok (.aload_n 0, 1) := by decide +kernel
theorem dL_acts_217 : decode cL_acts 217 = .ok (.iload 7, 2) := by decide +kernel
theorem dL_acts_219 : decode cL_acts 219 = .ok (.iconst 5, 1) := by decide +kernel
theorem dL_acts_220 : decode cL_acts 220 = .ok (.invokevirtual 15, 3) := by decide +kernel
theorem dL_acts_223 : decode cL_acts 223 = .ok (.istore 8, 2) := by decide +kernel
theorem dL_acts_225 : decode cL_acts 225 = .ok (.aload_n 0, 1) := by decide +kernel
theorem dL_acts_226 : decode cL_acts 226 = .ok (.iload 7, 2) := by decide +kernel
theorem dL_acts_228 : decode cL_acts 228 = .ok (.invokevirtual 38, 3) := by decide +kernel
theorem dL_acts_231 : decode cL_acts 231 = .ok (.istore 9, 2) := by decide +kernel
theorem dL_acts_233 : decode cL_acts 233 = .ok (.iload 9, 2) := by decide +kernel
theorem dL_acts_235 : decode cL_acts 235 = .ok (.ldc 42, 2) := by decide +kernel
theorem dL_acts_237 : decode cL_acts 237 = .ok (.if_icmp .ne 28, 3) := by decide +kernel
theorem dL_acts_240 : decode cL_acts 240 = .ok (.iload 8, 2) := by decide +kernel
theorem dL_acts_242 : decode cL_acts 242 = .ok (.iconst 1, 1) := by decide +kernel
theorem dL_acts_243 : decode cL_acts 243 = .ok (.if_icmp .eq 14, 3) := by decide +kernel
theorem dL_acts_246 : decode cL_acts 246 = .ok (.aload_n 0, 1) := by decide +kernel
theorem dL_acts_247 : decode cL_acts 247 = .ok (.iload 7, 2) := by decide +kernel
theorem dL_acts_249 : decode cL_acts 249 = .ok (.bipush 7, 2) := by decide +kernel
theorem dL_acts_251 : decode cL_acts 251 = .ok (.invokevirtual 15, 3) := by decide +kernel
theorem dL_acts_254 : decode cL_acts 254 = .ok (.ifCond .lt 7, 3) := by decide +kernel
theorem dL_acts_257 : decode cL_acts 257 = .ok (.iconst 1, 1) := by decide +kernel
theorem dL_acts_258 : decode cL_acts 258 = .ok (.goto 28, 3) := by decide +kernel
theorem dL_acts_261 : decode cL_acts 261 = .ok (.iconst 0, 1) := by decide +kernel
theorem dL_acts_262 : decode cL_acts 262 = .ok (.goto 24, 3) := by decide +kernel
theorem dL_acts_265 : decode cL_acts 265 = .ok (.iload 8, 2) := by decide +kernel
theorem dL_acts_267 : decode cL_acts 267 = .ok (.ifCond .ne 18, 3) := by decide +kernel
theorem dL_acts_270 : decode cL_acts 270 = .ok (.aload_n 0, 1) := by decide +kernel
theorem dL_acts_271 : decode cL_acts 271 = .ok (.iload 7, 2) := by decide +kernel
theorem dL_acts_273 : decode cL_acts 273 = .ok (.iconst 5, 1) := by decide +kernel
theorem dL_acts_274 : decode cL_acts 274 = .ok (.invokevirtual 15, 3) := by decide +kernel
theorem dL_acts_277 : decode cL_acts 277 = .ok (.iconst 1, 1) := by decide +kernel
theorem dL_acts_278 : decode cL_acts 278 = .ok (.if_icmp .ne 7, 3) := by decide +kernel
theorem dL_acts_281 : decode cL_acts 281 = .ok (.iconst 1, 1) := by decide +kernel
theorem dL_acts_282 : decode cL_acts 282 = .ok (.goto 4, 3) := by decide +kernel
theorem dL_acts_285 : decode cL_acts 285 = .ok (.iconst 0, 1) := by decide +kernel
theorem dL_acts_286 : decode cL_acts 286 = .ok (.ireturn, 1) := by decide +kernel
theorem dL_acts_287 : decode cL_acts 287 = .ok (.iload_n 2, 1) := by decide +kernel
theorem dL_acts_288 : decode cL_acts 288 = .ok (.iconst 1, 1) := by decide +kernel
theorem dL_acts_289 : decode cL_acts 289 = .ok (.aload_n 0, 1) := by decide +kernel
theorem dL_acts_290 : decode cL_acts 290 = .ok (.iconst 0, 1) := by decide +kernel
theorem dL_acts_291 : decode cL_acts 291 = .ok (.invokevirtual 9, 3) := by decide +kernel
theorem dL_acts_294 : decode cL_acts 294 = .ok (.ishl, 1) := by decide +kernel
theorem dL_acts_295 : decode cL_acts 295 = .ok (.irem, 1) := by decide +kernel
theorem dL_acts_296 : decode cL_acts 296 = .ok (.bipush (-2), 2) := by decide +kernel
theorem dL_acts_298 : decode cL_acts 298 = .ok (.iand, 1) := by decide +kernel
theorem dL_acts_299 : decode cL_acts 299 = .ok (.istore 10, 2) := by decide +kernel
theorem dL_acts_301 : decode cL_acts 301 = .ok (.iconst 1, 1) := by decide +kernel
theorem dL_acts_302 : decode cL_acts 302 = .ok (.iload_n 2, 1) := by decide +kernel
theorem dL_acts_303 : decode cL_acts 303 = .ok (.sipush 256, 3) := by decide +kernel
theorem dL_acts_306 : decode cL_acts 306 = .ok (.idiv, 1) := by decide +kernel
theorem dL_acts_307 : decode cL_acts 307 = .ok (.iconst 5, 1) := by decide +kernel
theorem dL_acts_308 : decode cL_acts 308 = .ok (.irem, 1) := by decide +kernel
theorem dL_acts_309 : decode cL_acts 309 = .ok (.iadd, 1) := by decide +kernel
theorem dL_acts_310 : decode cL_acts 310 = .ok (.istore 11, 2) := by decide +kernel
theorem dL_acts_312 : decode cL_acts 312 = .ok (.aload_n 0, 1) := by decide +kernel
theorem dL_acts_313 : decode cL_acts 313 = .ok (.bipush 6, 2) := by decide +kernel
theorem dL_acts_315 : decode cL_acts 315 = .ok (.invokevirtual 9, 3) := by decide +kernel
theorem dL_acts_318 : decode cL_acts 318 = .ok (.istore 12, 2) := by decide +kernel
theorem dL_acts_320 : decode cL_acts 320 = .ok (.aload_n 0, 1) := by decide +kernel
theorem dL_acts_321 : decode cL_acts 321 = .ok (.invokevirtual 43, 3) := by decide +kernel
theorem dL_acts_324 : decode cL_acts 324 = .ok (.ifCond .lt 90, 3) := by decide +kernel
theorem dL_acts_327 : decode cL_acts 327 = .ok (.aload_n 0, 1) := by decide +kernel
theorem dL_acts_328 : decode cL_acts 328 = .ok (.iload 10, 2) := by decide +kernel
theorem dL_acts_330 : decode cL_acts 330 = .ok (.iload 11, 2) := by decide +kernel
theorem dL_acts_332 : decode cL_acts 332 = .ok (.invokevirtual 47, 3) := by decide +kernel
theorem dL_acts_335 : decode cL_acts 335 = .ok (.iconst 1, 1) := by decide +kernel
theorem dL_acts_336 : decode cL_acts 336 = .ok (.if_icmp .ne 78, 3) := by decide +kernel
theorem dL_acts_339 : decode cL_acts 339 = .ok (.aload_n 0, 1) := by decide +kernel
theorem dL_acts_340 : decode cL_acts 340 = .ok (.iload 11, 2) := by decide +kernel
theorem dL_acts_342 : decode cL_acts 342 = .ok (.iload_n 2, 1) := by decide +kernel
theorem dL_acts_343 : decode cL_acts 343 = .ok (.sipush 2048, 3) := by decide +kernel
theorem dL_acts_346 : decode cL_acts 346 = .ok (.idiv, 1) := by decide +kernel
theorem dL_acts_347 : decode cL_acts 347 = .ok (.sipush 300, 3) := by decide +kernel
theorem dL_acts_350 : decode cL_acts 350 = .ok (.irem, 1) := by decide +kernel
theorem dL_acts_351 : decode cL_acts 351 = .ok (.invokevirtual 50, 3) := by decide +kernel
theorem dL_acts_354 : decode cL_acts 354 = .ok (.ifCond .lt 60, 3) := by decide +kernel
theorem dL_acts_357 : decode cL_acts 357 = .ok (.aload_n 0, 1) := by decide +kernel
theorem dL_acts_358 : decode cL_acts 358 = .ok (.iconst 4, 1) := by decide +kernel
theorem dL_acts_359 : decode cL_acts 359 = .ok (.invokevirtual 9, 3) := by decide +kernel
theorem dL_acts_362 : decode cL_acts 362 = .ok (.iload 10, 2) := by decide +kernel
theorem dL_acts_364 : decode cL_acts 364 = .ok (.if_icmp .ne 50, 3) := by decide +kernel
theorem dL_acts_367 : decode cL_acts 367 = .ok (.aload_n 0, 1) := by decide +kernel
theorem dL_acts_368 : decode cL_acts 368 = .ok (.bipush 12, 2) := by decide +kernel
theorem dL_acts_370 : decode cL_acts 370 = .ok (.invokevirtual 9, 3) := by decide +kernel
theorem dL_acts_373 : decode cL_acts 373 = .ok (.ifCond .ne 41, 3) := by decide +kernel
theorem dL_acts_376 : decode cL_acts 376 = .ok (.aload_n 0, 1) := by decide +kernel
theorem dL_acts_377 : decode cL_acts 377 = .ok (.bipush 13, 2) := by decide +kernel
theorem dL_acts_379 : decode cL_acts 379 = .ok (.invokevirtual 9, 3) := by decide +kernel
theorem dL_acts_382 : decode cL_acts 382 = .ok (.ifCond .ne 32, 3) := by decide +kernel
theorem dL_acts_385 : decode cL_acts 385 = .ok (.aload_n 0, 1) := by decide +kernel
theorem dL_acts_386 : decode cL_acts 386 = .ok (.bipush 6, 2) := by decide +kernel
theorem dL_acts_388 : decode cL_acts 388 = .ok (.invokevirtual 9, 3) := by decide +kernel
theorem dL_acts_391 : decode cL_acts 391 = .ok (.iload 12, 2) := by decide +kernel
theorem dL_acts_393 : decode cL_acts 393 = .ok (.iload 11, 2) := by decide +kernel
theorem dL_acts_395 : decode cL_acts 395 = .ok (.iadd, 1) := by decide +kernel
theorem dL_acts_396 : decode cL_acts 396 = .ok (.if_icmp .ne 18, 3) := by decide +kernel
theorem dL_acts_399 : decode cL_acts 399 = .ok (.aload_n 0, 1) := by decide +kernel
theorem dL_acts_400 : decode cL_acts 400 = .ok (.iconst 0, 1) := by decide +kernel
theorem dL_acts_401 : decode cL_acts 401 = .ok (.iconst 0, 1) := by decide +kernel
theorem dL_acts_402 : decode cL_acts 402 = .ok (.invokevirtual 53, 3) := by decide +kernel
theorem dL_acts_405 : decode cL_acts 405 = .ok (.iload 10, 2) := by decide +kernel
theorem dL_acts_407 : decode cL_acts 407 = .ok (.if_icmp .ne 7, 3) := by decide +kernel
theorem dL_acts_410 : decode cL_acts 410 = .ok (.iconst 1, 1) := by decide +kernel
theorem dL_acts_411 : decode cL_acts 411 = .ok (.goto 4, 3) := by decide +kernel
theorem dL_acts_414 : decode cL_acts 414 = .ok (.iconst 0, 1) := by decide +kernel
theorem dL_acts_415 : decode cL_acts 415 = .ok (.ireturn, 1) := by decide +kernel
theorem dL_acts_416 : decode cL_acts 416 = .ok (.aload_n 0, 1) := by decide +kernel
theorem dL_acts_417 : decode cL_acts 417 = .ok (.iconst 0, 1) := by decide +kernel
theorem dL_acts_418 : decode cL_acts 418 = .ok (.invokevirtual 9, 3) := by decide +kernel
theorem dL_acts_421 : decode cL_acts 421 = .ok (.iconst 1, 1) := by decide +kernel
theorem dL_acts_422 : decode cL_acts 422 = .ok (.if_icmp .ne 19, 3) := by decide +kernel
theorem dL_acts_425 : decode cL_acts 425 = .ok (.aload_n 0, 1) := by decide +kernel
theorem dL_acts_426 : decode cL_acts 426 = .ok (.iconst 1, 1) := by decide +kernel
theorem dL_acts_427 : decode cL_acts 427 = .ok (.invokevirtual 56, 3) := by decide +kernel
theorem dL_acts_430 : decode cL_acts 430 = .ok (.ldc 41, 2) := by decide +kernel
theorem dL_acts_432 : decode cL_acts 432 = .ok (.if_icmp .ne 7, 3) := by decide +kernel
theorem dL_acts_435 : decode cL_acts 435 = .ok (.iconst 1, 1) := by decide +kernel
theorem dL_acts_436 : decode cL_acts 436 = .ok (.goto 4, 3) := by decide +kernel
theorem dL_acts_439 : decode cL_acts 439 = .ok (.iconst 0, 1) := by decide +kernel
theorem dL_acts_440 : decode cL_acts 440 = .ok (.ireturn, 1) := by decide +kernel
theorem dL_acts_441 : decode cL_acts 441 = .ok (.iconst 1, 1) := by decide +kernel
theorem dL_acts_442 : decode cL_acts 442 = .ok (.iload_n 2, 1) := by decide +kernel
theorem dL_acts_443 : decode cL_acts 443 = .ok (.aload_n 0, 1) := by decide +kernel
theorem dL_acts_444 : decode cL_acts 444 = .ok (.iconst 0, 1) := by decide +kernel
theorem dL_acts_445 : decode cL_acts 445 = .ok (.invokevirtual 9, 3) := by decide +kernel
theorem dL_acts_448 : decode cL_acts 448 = .ok (.iconst 1, 1) := by decide +kernel
theorem dL_acts_449 : decode cL_acts 449 = .ok (.isub, 1) := by decide +kernel
theorem dL_acts_450 : decode cL_acts 450 = .ok (.irem, 1) := by decide +kernel
theorem dL_acts_451 : decode cL_acts 451 = .ok (.iadd, 1) := by decide +kernel
theorem dL_acts_452 : decode cL_acts 452 = .ok (.istore 13, 2) := by decide +kernel
theorem dL_acts_454 : decode cL_acts 454 = .ok (.aload_n 0, 1) := by decide +kernel
theorem dL_acts_455 : decode cL_acts 455 = .ok (.iload 13, 2) := by decide +kernel
theorem dL_acts_457 : decode cL_acts 457 = .ok (.iconst 5, 1) := by decide +kernel
theorem dL_acts_458 : decode cL_acts 458 = .ok (.invokevirtual 20, 3) := by decide +kernel
theorem dL_acts_461 : decode cL_acts 461 = .ok (.istore 14, 2) := by decide +kernel
theorem dL_acts_463 : decode cL_acts 463 = .ok (.aload_n 0, 1) := by decide +kernel
theorem dL_acts_464 : decode cL_acts 464 = .ok (.iload_n 2, 1) := by decide +kernel
theorem dL_acts_465 : decode cL_acts 465 = .ok (.bipush 8, 2) := by decide +kernel
theorem dL_acts_467 : decode cL_acts 467 = .ok (.idiv, 1) := by decide +kernel
theorem dL_acts_468 : decode cL_acts 468 = .ok (.iconst 3, 1) := by decide +kernel
theorem dL_acts_469 : decode cL_acts 469 = .ok (.irem, 1) := by decide +kernel
theorem dL_acts_470 : decode cL_acts 470 = .ok (.iload 13, 2) := by decide +kernel
theorem dL_acts_472 : decode cL_acts 472 = .ok (.invokevirtual 59, 3) := by decide +kernel
theorem dL_acts_475 : decode cL_acts 475 = .ok (.istore 15, 2) := by decide +kernel
theorem dL_acts_477 : decode cL_acts 477 = .ok (.iload 15, 2) := by decide +kernel
theorem dL_acts_479 : decode cL_acts 479 = .ok (.ifCond .le 40, 3) := by decide +kernel
theorem dL_acts_482 : decode cL_acts 482 = .ok (.iload 14, 2) := by decide +kernel
theorem dL_acts_484 : decode cL_acts 484 = .ok (.ldc 19, 2) := by decide +kernel
theorem dL_acts_486 : decode cL_acts 486 = .ok (.if_icmp .ne 29, 3) := by decide +kernel
theorem dL_acts_489 : decode cL_acts 489 = .ok (.aload_n 0, 1) := by decide +kernel
theorem dL_acts_490 : decode cL_acts 490 = .ok (.iload 13, 2) := by decide +kernel
theorem dL_acts_492 : decode cL_acts 492 = .ok (.iconst 5, 1) := by decide +kernel
theorem dL_acts_493 : decode cL_acts 493 = .ok (.invokevirtual 20, 3) := by decide +kernel
theorem dL_acts_496 : decode cL_acts 496 = .ok (.iload_n 2, 1) := by decide +kernel
theorem dL_acts_497 : decode cL_acts 497 = .ok (.bipush 8, 2) := by decide +kernel
theorem dL_acts_499 : decode cL_acts 499 = .ok (.idiv, 1) := by decide +kernel
theorem dL_acts_500 : decode cL_acts 500 = .ok (.iconst 3, 1) := by decide +kernel
theorem dL_acts_501 : decode cL_acts 501 = .ok (.irem, 1) := by decide +kernel
theorem dL_acts_502 : decode cL_acts 502 = .ok (.if_icmp .ne 13, 3) := by decide +kernel
theorem dL_acts_505 : decode cL_acts 505 = .ok (.iload 15, 2) := by decide +kernel
theorem dL_acts_507 : decode cL_acts 507 = .ok (.iconst 2, 1) := by decide +kernel
theorem dL_acts_508 : decode cL_acts 508 = .ok (.if_icmp .gt 7, 3) := by decide +kernel
theorem dL_acts_511 : decode cL_acts 511 = .ok (.iconst 1, 1) := by decide +kernel
theorem dL_acts_512 : decode cL_acts 512 = .ok (.goto 24, 3) := by decide +kernel
theorem dL_acts_515 : decode cL_acts 515 = .ok (.iconst 0, 1) := by decide +kernel
theorem dL_acts_516 : decode cL_acts 516 = .ok (.goto 20, 3) := by decide +kernel
theorem dL_acts_519 : decode cL_acts 519 = .ok (.aload_n 0, 1) := by decide +kernel
theorem dL_acts_520 : decode cL_acts 520 = .ok (.iload 13, 2) := by decide +kernel
theorem dL_acts_522 : decode cL_acts 522 = .ok (.iconst 5, 1) := by decide +kernel
theorem dL_acts_523 : decode cL_acts 523 = .ok (.invokevirtual 20, 3) := by decide +kernel
theorem dL_acts_526 : decode cL_acts 526 = .ok (.iload 14, 2) := by decide +kernel
theorem dL_acts_528 : decode cL_acts 528 = .ok (.if_icmp .ne 7, 3) := by decide +kernel
theorem dL_acts_531 : decode cL_acts 531 = .ok (.iconst 1, 1) := by decide +kernel
theorem dL_acts_532 : decode cL_acts 532 = .ok (.goto 4, 3) := by decide +kernel
theorem dL_acts_535 : decode cL_acts 535 = .ok (.iconst 0, 1) := by decide +kernel
theorem dL_acts_536 : decode cL_acts 536 = .ok (.ireturn, 1) := by decide +kernel
theorem dL_acts_537 : decode cL_acts 537 = .ok (.aload_n 0, 1) := by decide +kernel
theorem dL_acts_538 : decode cL_acts 538 = .ok (.iload_n 2, 1) := by decide +kernel
theorem dL_acts_539 : decode cL_acts 539 = .ok (.sipush 300, 3) := by decide +kernel
theorem dL_acts_542 : decode cL_acts 542 = .ok (.irem, 1) := by decide +kernel
theorem dL_acts_543 : decode cL_acts 543 = .ok (.invokestatic 62, 3) := by decide +kernel
theorem dL_acts_546 : decode cL_acts 546 = .ok (.ireturn, 1) := by decide +kernel
theorem dL_law_0 : decode cL_law 0 = .ok (.new 10, 3) := by decide +kernel
theorem dL_law_3 : decode cL_law 3 = .ok (.dup, 1) := by decide +kernel
theorem dL_law_4 : decode cL_law 4 = .ok (.invokespecial 67, 3) := by decide +kernel
theorem dL_law_7 : decode cL_law 7 = .ok (.astore_n 1, 1) := by decide +kernel
theorem dL_law_8 : decode cL_law 8 = .ok (.aload_n 1, 1) := by decide +kernel
theorem dL_law_9 : decode cL_law 9 = .ok (.invokestatic 68, 3) := by decide +kernel
theorem dL_law_12 : decode cL_law 12 = .ok (.ifCond .eq 49, 3) := by decide +kernel
theorem dL_law_15 : decode cL_law 15 = .ok (.aload_n 1, 1) := by decide +kernel
theorem dL_law_16 : decode cL_law 16 = .ok (.iconst 0, 1) := by decide +kernel
theorem dL_law_17 : decode cL_law 17 = .ok (.iconst 0, 1) := by decide +kernel
theorem dL_law_18 : decode cL_law 18 = .ok (.bipush 100, 2) := by decide +kernel
theorem dL_law_20 : decode cL_law 20 = .ok (.bipush 20, 2) := by decide +kernel
theorem dL_law_22 : decode cL_law 22 = .ok (.invokevirtual 29, 3) := by decide +kernel
theorem dL_law_25 : decode cL_law 25 = .ok (.iconst 1, 1) := by decide +kernel
theorem dL_law_26 : decode cL_law 26 = .ok (.if_icmp .ne 35, 3) := by decide +kernel
theorem dL_law_29 : decode cL_law 29 = .ok (.aload_n 1, 1) := by decide +kernel
theorem dL_law_30 : decode cL_law 30 = .ok (.iconst 1, 1) := by decide +kernel
theorem dL_law_31 : decode cL_law 31 = .ok (.bipush 120, 2) := by decide +kernel
theorem dL_law_33 : decode cL_law 33 = .ok (.bipush 40, 2) := by decide +kernel
theorem dL_law_35 : decode cL_law 35 = .ok (.iconst 5, 1) := by decide +kernel
theorem dL_law_36 : decode cL_law 36 = .ok (.invokevirtual 35, 3) := by decide +kernel
theorem dL_law_39 : decode cL_law 39 = .ok (.ifCond .ne 22, 3) := by decide +kernel
theorem dL_law_42 : decode cL_law 42 = .ok (.aload_n 1, 1) := by decide +kernel
theorem dL_law_43 : decode cL_law 43 = .ok (.iconst 0, 1) := by decide +kernel
theorem dL_law_44 : decode cL_law 44 = .ok (.bipush 90, 2) := by decide +kernel
theorem dL_law_46 : decode cL_law 46 = .ok (.bipush 30, 2) := by decide +kernel
theorem dL_law_48 : decode cL_law 48 = .ok (.bipush 9, 2) := by decide +kernel
theorem dL_law_50 : decode cL_law 50 = .ok (.invokevirtual 35, 3) := by decide +kernel
theorem dL_law_53 : decode cL_law 53 = .ok (.iconst 1, 1) := by decide +kernel
theorem dL_law_54 : decode cL_law 54 = .ok (.if_icmp .ne 7, 3) := by decide +kernel
theorem dL_law_57 : decode cL_law 57 = .ok (.iconst 1, 1) := by decide +kernel
theorem dL_law_58 : decode cL_law 58 = .ok (.goto 4, 3) := by decide +kernel
theorem dL_law_61 : decode cL_law 61 = .ok (.iconst 0, 1) := by decide +kernel
theorem dL_law_62 : decode cL_law 62 = .ok (.istore_n 2, 1) := by decide +kernel
theorem dL_law_63 : decode cL_law 63 = .ok (.iconst 0, 1) := by decide +kernel
theorem dL_law_64 : decode cL_law 64 = .ok (.istore_n 3, 1) := by decide +kernel
theorem dL_law_65 : decode cL_law 65 = .ok (.iload_n 3, 1) := by decide +kernel
theorem dL_law_66 : decode cL_law 66 = .ok (.bipush 30, 2) := by decide +kernel
theorem dL_law_68 : decode cL_law 68 = .ok (.if_icmp .ge 38, 3) := by decide +kernel
theorem dL_law_71 : decode cL_law 71 = .ok (.iload_n 2, 1) := by decide +kernel
theorem dL_law_72 : decode cL_law 72 = .ok (.ifCond .eq 34, 3) := by decide +kernel
theorem dL_law_75 : decode cL_law 75 = .ok (.aload_n 1, 1) := by decide +kernel
theorem dL_law_76 : decode cL_law 76 = .ok (.aload_n 0, 1) := by decide +kernel
theorem dL_law_77 : decode cL_law 77 = .ok (.iload_n 3, 1) := by decide +kernel
theorem dL_law_78 : decode cL_law 78 = .ok (.invokestatic 72, 3) := by decide +kernel
theorem dL_law_81 : decode cL_law 81 = .ok (.invokestatic 76, 3) := by decide +kernel
theorem dL_law_84 : decode cL_law 84 = .ok (.ifCond .eq 14, 3) := by decide +kernel
theorem dL_law_87 : decode cL_law 87 = .ok (.aload_n 1, 1) := by decide +kernel
theorem dL_law_88 : decode cL_law 88 = .ok (.invokestatic 68, 3) := by decide +kernel
theorem dL_law_91 : decode cL_law 91 = .ok (.ifCond .eq 7, 3) := by decide +kernel
theorem dL_law_94 : decode cL_law 94 = .ok (.iconst 1, 1) := by decide +kernel
theorem dL_law_95 : decode cL_law 95 = .ok (.goto 4, 3) := by decide +kernel
theorem dL_law_98 : decode cL_law 98 = .ok (.iconst 0, 1) := by decide +kernel
theorem dL_law_99 : decode cL_law 99 = .ok (.istore_n 2, 1) := by decide +kernel
theorem dL_law_100 : decode cL_law 100 = .ok (.iinc 3 1, 3) := by decide +kernel
theorem dL_law_103 : decode cL_law 103 = .ok (.goto (-38), 3) := by decide +kernel
theorem dL_law_106 : decode cL_law 106 = .ok (.aload_n 1, 1) := by decide +kernel
theorem dL_law_107 : decode cL_law 107 = .ok (.bipush 7, 2) := by decide +kernel
theorem dL_law_109 : decode cL_law 109 = .ok (.invokevirtual 9, 3) := by decide +kernel
theorem dL_law_112 : decode cL_law 112 = .ok (.istore_n 3, 1) := by decide +kernel
theorem dL_law_113 : decode cL_law 113 = .ok (.aload_n 1, 1) := by decide +kernel
theorem dL_law_114 : decode cL_law 114 = .ok (.bipush 6, 2) := by decide +kernel
theorem dL_law_116 : decode cL_law 116 = .ok (.invokevirtual 9, 3) := by decide +kernel
theorem dL_law_119 : decode cL_law 119 = .ok (.istore 4, 2) := by decide +kernel
theorem dL_law_121 : decode cL_law 121 = .ok (.iload_n 2, 1) := by decide +kernel
theorem dL_law_122 : decode cL_law 122 = .ok (.ifCond .eq 86, 3) := by decide +kernel
theorem dL_law_125 : decode cL_law 125 = .ok (.aload_n 1, 1) := by decide +kernel
theorem dL_law_126 : decode cL_law 126 = .ok (.iconst 3, 1) := by decide +kernel
theorem dL_law_127 : decode cL_law 127 = .ok (.bipush 50, 2) := by decide +kernel
theorem dL_law_129 : decode cL_law 129 = .ok (.invokevirtual 50, 3) := by decide +kernel
theorem dL_law_132 : decode cL_law 132 = .ok (.ifCond .lt 76, 3) := by decide +kernel
theorem dL_law_135 : decode cL_law 135 = .ok (.aload_n 1, 1) := by decide +kernel
theorem dL_law_136 : decode cL_law 136 = .ok (.bipush 7, 2) := by decide +kernel
theorem dL_law_138 : decode cL_law 138 = .ok (.invokevirtual 9, 3) := by decide +kernel
theorem dL_law_141 : decode cL_law 141 = .ok (.iload_n 3, 1) := by decide +kernel
theorem dL_law_142 : decode cL_law 142 = .ok (.sipush 150, 3) := by decide +kernel
theorem dL_law_145 : decode cL_law 145 = .ok (.iadd, 1) := by decide +kernel
theorem dL_law_146 : decode cL_law 146 = .ok (.if_icmp .ne 62, 3) := by decide +kernel
theorem dL_law_149 : decode cL_law 149 = .ok (.aload_n 1, 1) := by decide +kernel
theorem dL_law_150 : decode cL_law 150 = .ok (.bipush 6, 2) := by decide +kernel
theorem dL_law_152 : decode cL_law 152 = .ok (.invokevirtual 9, 3) := by decide +kernel
theorem dL_law_155 : decode cL_law 155 = .ok (.iload 4, 2) := by decide +kernel
theorem dL_law_157 : decode cL_law 157 = .ok (.iconst 3, 1) := by decide +kernel
theorem dL_law_158 : decode cL_law 158 = .ok (.iadd, 1) := by decide +kernel
theorem dL_law_159 : decode cL_law 159 = .ok (.if_icmp .ne 49, 3) := by decide +kernel
theorem dL_law_162 : decode cL_law 162 = .ok (.aload_n 1, 1) := by decide +kernel
theorem dL_law_163 : decode cL_law 163 = .ok (.invokestatic 68, 3) := by decide +kernel
theorem dL_law_166 : decode cL_law 166 = .ok (.ifCond .eq 42, 3) := by decide +kernel
theorem dL_law_169 : decode cL_law 169 = .ok (.aload_n 1, 1) := by decide +kernel
theorem dL_law_170 : decode cL_law 170 = .ok (.invokevirtual 79, 3) := by decide +kernel
theorem dL_law_173 : decode cL_law 173 = .ok (.ifCond .lt 35, 3) := by decide +kernel
theorem dL_law_176 : decode cL_law 176 = .ok (.aload_n 1, 1) := by decide +kernel
theorem dL_law_177 : decode cL_law 177 = .ok (.bipush 7, 2) := by decide +kernel
theorem dL_law_179 : decode cL_law 179 = .ok (.invokevirtual 9, 3) := by decide +kernel
theorem dL_law_182 : decode cL_law 182 = .ok (.iload_n 3, 1) := by decide +kernel
theorem dL_law_183 : decode cL_law 183 = .ok (.if_icmp .ne 25, 3) := by decide +kernel
theorem dL_law_186 : decode cL_law 186 = .ok (.aload_n 1, 1) := by decide +kernel
theorem dL_law_187 : decode cL_law 187 = .ok (.bipush 6, 2) := by decide +kernel
theorem dL_law_189 : decode cL_law 189 = .ok (.invokevirtual 9, 3) := by decide +kernel
theorem dL_law_192 : decode cL_law 192 = .ok (.iload 4, 2) := by decide +kernel
theorem dL_law_194 : decode cL_law 194 = .ok (.if_icmp .ne 14, 3) := by decide +kernel
theorem dL_law_197 : decode cL_law 197 = .ok (.aload_n 1, 1) := by decide +kernel
theorem dL_law_198 : decode cL_law 198 = .ok (.invokestatic 68, 3) := by decide +kernel
theorem dL_law_201 : decode cL_law 201 = .ok (.ifCond .eq 7, 3) := by decide +kernel
theorem dL_law_204 : decode cL_law 204 = .ok (.iconst 1, 1) := by decide +kernel
theorem dL_law_205 : decode cL_law 205 = .ok (.goto 4, 3) := by decide +kernel
theorem dL_law_208 : decode cL_law 208 = .ok (.iconst 0, 1) := by decide +kernel
theorem dL_law_209 : decode cL_law 209 = .ok (.ireturn, 1) := by decide +kernel
