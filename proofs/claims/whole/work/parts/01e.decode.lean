theorem dX7_isBelow_6 : decode cX7_isBelow 6 = .ok (.if_icmp .le 30, 3) := by decide +kernel
theorem dX7_isBelow_9 : decode cX7_isBelow 9 = .ok (.iload_n 3, 1) := by decide +kernel
theorem dX7_isBelow_10 : decode cX7_isBelow 10 = .ok (.ifCond .eq 14, 3) := by decide +kernel
theorem dX7_isBelow_13 : decode cX7_isBelow 13 = .ok (.aload_n 0, 1) := by decide +kernel
theorem dX7_isBelow_14 : decode cX7_isBelow 14 = .ok (.iload 4, 2) := by decide +kernel
theorem dX7_isBelow_16 : decode cX7_isBelow 16 = .ok (.iconst 4, 1) := by decide +kernel
theorem dX7_isBelow_17 : decode cX7_isBelow 17 = .ok (.invokevirtual 54, 3) := by decide +kernel
theorem dX7_isBelow_20 : decode cX7_isBelow 20 = .ok (.iconst 1, 1) := by decide +kernel
theorem dX7_isBelow_21 : decode cX7_isBelow 21 = .ok (.if_icmp .ne 15, 3) := by decide +kernel
theorem dX7_isBelow_24 : decode cX7_isBelow 24 = .ok (.aload_n 0, 1) := by decide +kernel
theorem dX7_isBelow_25 : decode cX7_isBelow 25 = .ok (.iload 4, 2) := by decide +kernel
theorem dX7_isBelow_27 : decode cX7_isBelow 27 = .ok (.iconst 0, 1) := by decide +kernel
theorem dX7_isBelow_28 : decode cX7_isBelow 28 = .ok (.invokevirtual 54, 3) := by decide +kernel
theorem dX7_isBelow_31 : decode cX7_isBelow 31 = .ok (.istore 4, 2) := by decide +kernel
theorem dX7_isBelow_33 : decode cX7_isBelow 33 = .ok (.goto (-30), 3) := by decide +kernel
theorem dX7_isBelow_36 : decode cX7_isBelow 36 = .ok (.iload 4, 2) := by decide +kernel
theorem dX7_isBelow_38 : decode cX7_isBelow 38 = .ok (.iload_n 2, 1) := by decide +kernel
theorem dX7_isBelow_39 : decode cX7_isBelow 39 = .ok (.if_icmp .ne 12, 3) := by decide +kernel
theorem dX7_isBelow_42 : decode cX7_isBelow 42 = .ok (.iload_n 1, 1) := by decide +kernel
theorem dX7_isBelow_43 : decode cX7_isBelow 43 = .ok (.iload_n 2, 1) := by decide +kernel
theorem dX7_isBelow_44 : decode cX7_isBelow 44 = .ok (.if_icmp .eq 7, 3) := by decide +kernel
theorem dX7_isBelow_47 : decode cX7_isBelow 47 = .ok (.iconst 1, 1) := by decide +kernel
theorem dX7_isBelow_48 : decode cX7_isBelow 48 = .ok (.goto 4, 3) := by decide +kernel
theorem dX7_isBelow_51 : decode cX7_isBelow 51 = .ok (.iconst 0, 1) := by decide +kernel
theorem dX7_isBelow_52 : decode cX7_isBelow 52 = .ok (.ireturn, 1) := by decide +kernel
theorem dX7_mayTake_0 : decode cX7_mayTake 0 = .ok (.iconst 1, 1) := by decide +kernel
theorem dX7_mayTake_1 : decode cX7_mayTake 1 = .ok (.istore_n 2, 1) := by decide +kernel
theorem dX7_mayTake_2 : decode cX7_mayTake 2 = .ok (.iconst 0, 1) := by decide +kernel
theorem dX7_mayTake_3 : decode cX7_mayTake 3 = .ok (.istore_n 3, 1) := by decide +kernel
theorem dX7_mayTake_4 : decode cX7_mayTake 4 = .ok (.iload_n 3, 1) := by decide +kernel
theorem dX7_mayTake_5 : decode cX7_mayTake 5 = .ok (.aload_n 0, 1) := by decide +kernel
theorem dX7_mayTake_6 : decode cX7_mayTake 6 = .ok (.getfield 7, 3) := by decide +kernel
theorem dX7_mayTake_9 : decode cX7_mayTake 9 = .ok (.iconst 1, 1) := by decide +kernel
theorem dX7_mayTake_10 : decode cX7_mayTake 10 = .ok (.iaload, 1) := by decide +kernel
theorem dX7_mayTake_11 : decode cX7_mayTake 11 = .ok (.if_icmp .ge 64, 3) := by decide +kernel
theorem dX7_mayTake_14 : decode cX7_mayTake 14 = .ok (.iload_n 2, 1) := by decide +kernel
theorem dX7_mayTake_15 : decode cX7_mayTake 15 = .ok (.ifCond .eq 52, 3) := by decide +kernel
theorem dX7_mayTake_18 : decode cX7_mayTake 18 = .ok (.aload_n 0, 1) := by decide +kernel
theorem dX7_mayTake_19 : decode cX7_mayTake 19 = .ok (.iload_n 3, 1) := by decide +kernel
theorem dX7_mayTake_20 : decode cX7_mayTake 20 = .ok (.iconst 5, 1) := by decide +kernel
theorem dX7_mayTake_21 : decode cX7_mayTake 21 = .ok (.invokevirtual 33, 3) := by decide +kernel
theorem dX7_mayTake_24 : decode cX7_mayTake 24 = .ok (.iconst 1, 1) := by decide +kernel
theorem dX7_mayTake_25 : decode cX7_mayTake 25 = .ok (.if_icmp .ne 38, 3) := by decide +kernel
theorem dX7_mayTake_28 : decode cX7_mayTake 28 = .ok (.aload_n 0, 1) := by decide +kernel
theorem dX7_mayTake_29 : decode cX7_mayTake 29 = .ok (.iload_n 3, 1) := by decide +kernel
theorem dX7_mayTake_30 : decode cX7_mayTake 30 = .ok (.iconst 3, 1) := by decide +kernel
theorem dX7_mayTake_31 : decode cX7_mayTake 31 = .ok (.invokevirtual 33, 3) := by decide +kernel
theorem dX7_mayTake_34 : decode cX7_mayTake 34 = .ok (.aload_n 0, 1) := by decide +kernel
theorem dX7_mayTake_35 : decode cX7_mayTake 35 = .ok (.iload_n 1, 1) := by decide +kernel
theorem dX7_mayTake_36 : decode cX7_mayTake 36 = .ok (.iconst 3, 1) := by decide +kernel
theorem dX7_mayTake_37 : decode cX7_mayTake 37 = .ok (.invokevirtual 33, 3) := by decide +kernel
theorem dX7_mayTake_40 : decode cX7_mayTake 40 = .ok (.if_icmp .ge 23, 3) := by decide +kernel
theorem dX7_mayTake_43 : decode cX7_mayTake 43 = .ok (.aload_n 0, 1) := by decide +kernel
theorem dX7_mayTake_44 : decode cX7_mayTake 44 = .ok (.aload_n 0, 1) := by decide +kernel
theorem dX7_mayTake_45 : decode cX7_mayTake 45 = .ok (.iload_n 3, 1) := by decide +kernel
theorem dX7_mayTake_46 : decode cX7_mayTake 46 = .ok (.iconst 0, 1) := by decide +kernel
theorem dX7_mayTake_47 : decode cX7_mayTake 47 = .ok (.invokevirtual 33, 3) := by decide +kernel
theorem dX7_mayTake_50 : decode cX7_mayTake 50 = .ok (.aload_n 0, 1) := by decide +kernel
theorem dX7_mayTake_51 : decode cX7_mayTake 51 = .ok (.iload_n 1, 1) := by decide +kernel
theorem dX7_mayTake_52 : decode cX7_mayTake 52 = .ok (.iconst 0, 1) := by decide +kernel
theorem dX7_mayTake_53 : decode cX7_mayTake 53 = .ok (.invokevirtual 33, 3) := by decide +kernel
theorem dX7_mayTake_56 : decode cX7_mayTake 56 = .ok (.iconst 1, 1) := by decide +kernel
theorem dX7_mayTake_57 : decode cX7_mayTake 57 = .ok (.invokevirtual 89, 3) := by decide +kernel
theorem dX7_mayTake_60 : decode cX7_mayTake 60 = .ok (.ifCond .ne 7, 3) := by decide +kernel
theorem dX7_mayTake_63 : decode cX7_mayTake 63 = .ok (.iconst 1, 1) := by decide +kernel
theorem dX7_mayTake_64 : decode cX7_mayTake 64 = .ok (.goto 4, 3) := by decide +kernel
theorem dX7_mayTake_67 : decode cX7_mayTake 67 = .ok (.iconst 0, 1) := by decide +kernel
theorem dX7_mayTake_68 : decode cX7_mayTake 68 = .ok (.istore_n 2, 1) := by decide +kernel
theorem dX7_mayTake_69 : decode cX7_mayTake 69 = .ok (.iinc 3 1, 3) := by decide +kernel
theorem dX7_mayTake_72 : decode cX7_mayTake 72 = .ok (.goto (-68), 3) := by decide +kernel
theorem dX7_mayTake_75 : decode cX7_mayTake 75 = .ok (.iload_n 2, 1) := by decide +kernel
theorem dX7_mayTake_76 : decode cX7_mayTake 76 = .ok (.ireturn, 1) := by decide +kernel
theorem dX7_isWanted_0 : decode cX7_isWanted 0 = .ok (.iconst 0, 1) := by decide +kernel
theorem dX7_isWanted_1 : decode cX7_isWanted 1 = .ok (.istore_n 2, 1) := by decide +kernel
theorem dX7_isWanted_2 : decode cX7_isWanted 2 = .ok (.iconst 0, 1) := by decide +kernel
theorem dX7_isWanted_3 : decode cX7_isWanted 3 = .ok (.istore_n 3, 1) := by decide +kernel
theorem dX7_isWanted_4 : decode cX7_isWanted 4 = .ok (.iload_n 3, 1) := by decide +kernel
theorem dX7_isWanted_5 : decode cX7_isWanted 5 = .ok (.aload_n 0, 1) := by decide +kernel
theorem dX7_isWanted_6 : decode cX7_isWanted 6 = .ok (.getfield 7, 3) := by decide +kernel
theorem dX7_isWanted_9 : decode cX7_isWanted 9 = .ok (.iconst 1, 1) := by decide +kernel
theorem dX7_isWanted_10 : decode cX7_isWanted 10 = .ok (.iaload, 1) := by decide +kernel
theorem dX7_isWanted_11 : decode cX7_isWanted 11 = .ok (.if_icmp .ge 52, 3) := by decide +kernel
theorem dX7_isWanted_14 : decode cX7_isWanted 14 = .ok (.iload_n 2, 1) := by decide +kernel
theorem dX7_isWanted_15 : decode cX7_isWanted 15 = .ok (.ifCond .ne 36, 3) := by decide +kernel
theorem dX7_isWanted_18 : decode cX7_isWanted 18 = .ok (.aload_n 0, 1) := by decide +kernel
theorem dX7_isWanted_19 : decode cX7_isWanted 19 = .ok (.iload_n 3, 1) := by decide +kernel
theorem dX7_isWanted_20 : decode cX7_isWanted 20 = .ok (.invokevirtual 74, 3) := by decide +kernel
theorem dX7_isWanted_23 : decode cX7_isWanted 23 = .ok (.ifCond .eq 32, 3) := by decide +kernel
theorem dX7_isWanted_26 : decode cX7_isWanted 26 = .ok (.aload_n 0, 1) := by decide +kernel
theorem dX7_isWanted_27 : decode cX7_isWanted 27 = .ok (.iload_n 3, 1) := by decide +kernel
theorem dX7_isWanted_28 : decode cX7_isWanted 28 = .ok (.iconst 0, 1) := by decide +kernel
theorem dX7_isWanted_29 : decode cX7_isWanted 29 = .ok (.invokevirtual 33, 3) := by decide +kernel
theorem dX7_isWanted_32 : decode cX7_isWanted 32 = .ok (.iload_n 1, 1) := by decide +kernel
theorem dX7_isWanted_33 : decode cX7_isWanted 33 = .ok (.if_icmp .eq 18, 3) := by decide +kernel
theorem dX7_isWanted_36 : decode cX7_isWanted 36 = .ok (.aload_n 0, 1) := by decide +kernel
theorem dX7_isWanted_37 : decode cX7_isWanted 37 = .ok (.aload_n 0, 1) := by decide +kernel
theorem dX7_isWanted_38 : decode cX7_isWanted 38 = .ok (.iload_n 3, 1) := by decide +kernel
theorem dX7_isWanted_39 : decode cX7_isWanted 39 = .ok (.iconst 0, 1) := by decide +kernel
theorem dX7_isWanted_40 : decode cX7_isWanted 40 = .ok (.invokevirtual 33, 3) := by decide +kernel
theorem dX7_isWanted_43 : decode cX7_isWanted 43 = .ok (.iload_n 1, 1) := by decide +kernel
theorem dX7_isWanted_44 : decode cX7_isWanted 44 = .ok (.iconst 0, 1) := by decide +kernel
theorem dX7_isWanted_45 : decode cX7_isWanted 45 = .ok (.invokevirtual 89, 3) := by decide +kernel
theorem dX7_isWanted_48 : decode cX7_isWanted 48 = .ok (.ifCond .eq 7, 3) := by decide +kernel
theorem dX7_isWanted_51 : decode cX7_isWanted 51 = .ok (.iconst 1, 1) := by decide +kernel
theorem dX7_isWanted_52 : decode cX7_isWanted 52 = .ok (.goto 4, 3) := by decide +kernel
theorem dX7_isWanted_55 : decode cX7_isWanted 55 = .ok (.iconst 0, 1) := by decide +kernel
theorem dX7_isWanted_56 : decode cX7_isWanted 56 = .ok (.istore_n 2, 1) := by decide +kernel
theorem dX7_isWanted_57 : decode cX7_isWanted 57 = .ok (.iinc 3 1, 3) := by decide +kernel
theorem dX7_isWanted_60 : decode cX7_isWanted 60 = .ok (.goto (-56), 3) := by decide +kernel
theorem dX7_isWanted_63 : decode cX7_isWanted 63 = .ok (.iload_n 2, 1) := by decide +kernel
theorem dX7_isWanted_64 : decode cX7_isWanted 64 = .ok (.ireturn, 1) := by decide +kernel
theorem dX7_next_0 : decode cX7_next 0 = .ok (.iconst (-1), 1) := by decide +kernel
theorem dX7_next_1 : decode cX7_next 1 = .ok (.istore_n 2, 1) := by decide +kernel
theorem dX7_next_2 : decode cX7_next 2 = .ok (.iconst 0, 1) := by decide +kernel
theorem dX7_next_3 : decode cX7_next 3 = .ok (.istore_n 3, 1) := by decide +kernel
theorem dX7_next_4 : decode cX7_next 4 = .ok (.iload_n 3, 1) := by decide +kernel
theorem dX7_next_5 : decode cX7_next 5 = .ok (.aload_n 0, 1) := by decide +kernel
theorem dX7_next_6 : decode cX7_next 6 = .ok (.getfield 7, 3) := by decide +kernel
theorem dX7_next_9 : decode cX7_next 9 = .ok (.iconst 1, 1) := by decide +kernel
theorem dX7_next_10 : decode cX7_next 10 = .ok (.iaload, 1) := by decide +kernel
theorem dX7_next_11 : decode cX7_next 11 = .ok (.if_icmp .ge 55, 3) := by decide +kernel
theorem dX7_next_14 : decode cX7_next 14 = .ok (.iload_n 1, 1) := by decide +kernel
theorem dX7_next_15 : decode cX7_next 15 = .ok (.iload_n 3, 1) := by decide +kernel
theorem dX7_next_16 : decode cX7_next 16 = .ok (.ishr, 1) := by decide +kernel
theorem dX7_next_17 : decode cX7_next 17 = .ok (.iconst 1, 1) := by decide +kernel
theorem dX7_next_18 : decode cX7_next 18 = .ok (.iand, 1) := by decide +kernel
theorem dX7_next_19 : decode cX7_next 19 = .ok (.iconst 1, 1) := by decide +kernel
theorem dX7_next_20 : decode cX7_next 20 = .ok (.if_icmp .ne 26, 3) := by decide +kernel
theorem dX7_next_23 : decode cX7_next 23 = .ok (.iload_n 2, 1) := by decide +kernel
theorem dX7_next_24 : decode cX7_next 24 = .ok (.ifCond .lt 18, 3) := by decide +kernel
theorem dX7_next_27 : decode cX7_next 27 = .ok (.aload_n 0, 1) := by decide +kernel
theorem dX7_next_28 : decode cX7_next 28 = .ok (.iload_n 3, 1) := by decide +kernel
theorem dX7_next_29 : decode cX7_next 29 = .ok (.iconst 3, 1) := by decide +kernel
theorem dX7_next_30 : decode cX7_next 30 = .ok (.invokevirtual 33, 3) := by decide +kernel
theorem dX7_next_33 : decode cX7_next 33 = .ok (.aload_n 0, 1) := by decide +kernel
theorem dX7_next_34 : decode cX7_next 34 = .ok (.iload_n 2, 1) := by decide +kernel
theorem dX7_next_35 : decode cX7_next 35 = .ok (.iconst 3, 1) := by decide +kernel
theorem dX7_next_36 : decode cX7_next 36 = .ok (.invokevirtual 33, 3) := by decide +kernel
theorem dX7_next_39 : decode cX7_next 39 = .ok (.if_icmp .ge 7, 3) := by decide +kernel
theorem dX7_next_42 : decode cX7_next 42 = .ok (.iconst 1, 1) := by decide +kernel
theorem dX7_next_43 : decode cX7_next 43 = .ok (.goto 4, 3) := by decide +kernel
theorem dX7_next_46 : decode cX7_next 46 = .ok (.iconst 0, 1) := by decide +kernel
theorem dX7_next_47 : decode cX7_next 47 = .ok (.istore 4, 2) := by decide +kernel
theorem dX7_next_49 : decode cX7_next 49 = .ok (.iload 4, 2) := by decide +kernel
theorem dX7_next_51 : decode cX7_next 51 = .ok (.ifCond .eq 7, 3) := by decide +kernel
theorem dX7_next_54 : decode cX7_next 54 = .ok (.iload_n 3, 1) := by decide +kernel
theorem dX7_next_55 : decode cX7_next 55 = .ok (.goto 4, 3) := by decide +kernel
theorem dX7_next_58 : decode cX7_next 58 = .ok (.iload_n 2, 1) := by decide +kernel
theorem dX7_next_59 : decode cX7_next 59 = .ok (.istore_n 2, 1) := by decide +kernel
theorem dX7_next_60 : decode cX7_next 60 = .ok (.iinc 3 1, 3) := by decide +kernel
theorem dX7_next_63 : decode cX7_next 63 = .ok (.goto (-59), 3) := by decide +kernel
theorem dX7_next_66 : decode cX7_next 66 = .ok (.iload_n 2, 1) := by decide +kernel
theorem dX7_next_67 : decode cX7_next 67 = .ok (.ireturn, 1) := by decide +kernel
theorem dX7_serves_0 : decode cX7_serves 0 = .ok (.iconst 0, 1) := by decide +kernel
theorem dX7_serves_1 : decode cX7_serves 1 = .ok (.istore_n 3, 1) := by decide +kernel
theorem dX7_serves_2 : decode cX7_serves 2 = .ok (.iconst 0, 1) := by decide +kernel
theorem dX7_serves_3 : decode cX7_serves 3 = .ok (.istore 4, 2) := by decide +kernel
theorem dX7_serves_5 : decode cX7_serves 5 = .ok (.iload 4, 2) := by decide +kernel
theorem dX7_serves_7 : decode cX7_serves 7 = .ok (.aload_n 0, 1) := by decide +kernel
theorem dX7_serves_8 : decode cX7_serves 8 = .ok (.getfield 7, 3) := by decide +kernel
theorem dX7_serves_11 : decode cX7_serves 11 = .ok (.iconst 1, 1) := by decide +kernel
theorem dX7_serves_12 : decode cX7_serves 12 = .ok (.iaload, 1) := by decide +kernel
theorem dX7_serves_13 : decode cX7_serves 13 = .ok (.if_icmp .ge 49, 3) := by decide +kernel
theorem dX7_serves_16 : decode cX7_serves 16 = .ok (.iload_n 3, 1) := by decide +kernel
theorem dX7_serves_17 : decode cX7_serves 17 = .ok (.aload_n 0, 1) := by decide +kernel
theorem dX7_serves_18 : decode cX7_serves 18 = .ok (.iload 4, 2) := by decide +kernel
theorem dX7_serves_20 : decode cX7_serves 20 = .ok (.iconst 0, 1) := by decide +kernel
theorem dX7_serves_21 : decode cX7_serves 21 = .ok (.invokevirtual 33, 3) := by decide +kernel
theorem dX7_serves_24 : decode cX7_serves 24 = .ok (.iload_n 1, 1) := by decide +kernel
theorem dX7_serves_25 : decode cX7_serves 25 = .ok (.if_icmp .ne 28, 3) := by decide +kernel
theorem dX7_serves_28 : decode cX7_serves 28 = .ok (.aload_n 0, 1) := by decide +kernel
theorem dX7_serves_29 : decode cX7_serves 29 = .ok (.iload 4, 2) := by decide +kernel
theorem dX7_serves_31 : decode cX7_serves 31 = .ok (.invokevirtual 74, 3) := by decide +kernel
theorem dX7_serves_34 : decode cX7_serves 34 = .ok (.ifCond .eq 19, 3) := by decide +kernel
theorem dX7_serves_37 : decode cX7_serves 37 = .ok (.aload_n 0, 1) := by decide +kernel
theorem dX7_serves_38 : decode cX7_serves 38 = .ok (.iload 4, 2) := by decide +kernel
theorem dX7_serves_40 : decode cX7_serves 40 = .ok (.invokevirtual 93, 3) := by decide +kernel
theorem dX7_serves_43 : decode cX7_serves 43 = .ok (.ifCond .eq 10, 3) := by decide +kernel
theorem dX7_serves_46 : decode cX7_serves 46 = .ok (.iconst 1, 1) := by decide +kernel
theorem dX7_serves_47 : decode cX7_serves 47 = .ok (.iload 4, 2) := by decide +kernel
theorem dX7_serves_49 : decode cX7_serves 49 = .ok (.ishl, 1) := by decide +kernel
theorem dX7_serves_50 : decode cX7_serves 50 = .ok (.goto 4, 3) := by decide +kernel
theorem dX7_serves_53 : decode cX7_serves 53 = .ok (.iconst 0, 1) := by decide +kernel
theorem dX7_serves_54 : decode cX7_serves 54 = .ok (.ior, 1) := by decide +kernel
theorem dX7_serves_55 : decode cX7_serves 55 = .ok (.istore_n 3, 1) := by decide +kernel
theorem dX7_serves_56 : decode cX7_serves 56 = .ok (.iinc 4 1, 3) := by decide +kernel
theorem dX7_serves_59 : decode cX7_serves 59 = .ok (.goto (-54), 3) := by decide +kernel
theorem dX7_serves_62 : decode cX7_serves 62 = .ok (.iload_n 2, 1) := by decide +kernel
theorem dX7_serves_63 : decode cX7_serves 63 = .ok (.istore 4, 2) := by decide +kernel
theorem dX7_serves_65 : decode cX7_serves 65 = .ok (.aload_n 0, 1) := by decide +kernel
theorem dX7_serves_66 : decode cX7_serves 66 = .ok (.iload_n 3, 1) := by decide +kernel
theorem dX7_serves_67 : decode cX7_serves 67 = .ok (.invokevirtual 96, 3) := by decide +kernel
theorem dX7_serves_70 : decode cX7_serves 70 = .ok (.istore 5, 2) := by decide +kernel
theorem dX7_serves_72 : decode cX7_serves 72 = .ok (.iload 5, 2) := by decide +kernel
theorem dX7_serves_74 : decode cX7_serves 74 = .ok (.ifCond .lt 155, 3) := by decide +kernel
theorem dX7_serves_77 : decode cX7_serves 77 = .ok (.iload_n 3, 1) := by decide +kernel
theorem dX7_serves_78 : decode cX7_serves 78 = .ok (.iconst 1, 1) := by decide +kernel
theorem dX7_serves_79 : decode cX7_serves 79 = .ok (.iload 5, 2) := by decide +kernel
theorem dX7_serves_81 : decode cX7_serves 81 = .ok (.ishl, 1) := by decide +kernel
theorem dX7_serves_82 : decode cX7_serves 82 = .ok (.iconst (-1), 1) := by decide +kernel
theorem dX7_serves_83 : decode cX7_serves 83 = .ok (.ixor, 1) := by decide +kernel
theorem dX7_serves_84 : decode cX7_serves 84 = .ok (.iand, 1) := by decide +kernel
theorem dX7_serves_85 : decode cX7_serves 85 = .ok (.istore_n 3, 1) := by decide +kernel
theorem dX7_serves_86 : decode cX7_serves 86 = .ok (.aload_n 0, 1) := by decide +kernel
theorem dX7_serves_87 : decode cX7_serves 87 = .ok (.iload 5, 2) := by decide +kernel
theorem dX7_serves_89 : decode cX7_serves 89 = .ok (.iconst 1, 1) := by decide +kernel
theorem dX7_serves_90 : decode cX7_serves 90 = .ok (.invokevirtual 33, 3) := by decide +kernel
theorem dX7_serves_93 : decode cX7_serves 93 = .ok (.aload_n 0, 1) := by decide +kernel
theorem dX7_serves_94 : decode cX7_serves 94 = .ok (.iload 5, 2) := by decide +kernel
theorem dX7_serves_96 : decode cX7_serves 96 = .ok (.iconst 4, 1) := by decide +kernel
theorem dX7_serves_97 : decode cX7_serves 97 = .ok (.invokevirtual 33, 3) := by decide +kernel
theorem dX7_serves_100 : decode cX7_serves 100 = .ok (.isub, 1) := by decide +kernel
theorem dX7_serves_101 : decode cX7_serves 101 = .ok (.istore 6, 2) := by decide +kernel
theorem dX7_serves_103 : decode cX7_serves 103 = .ok (.iload 6, 2) := by decide +kernel
theorem dX7_serves_105 : decode cX7_serves 105 = .ok (.aload_n 0, 1) := by decide +kernel
theorem dX7_serves_106 : decode cX7_serves 106 = .ok (.iload 5, 2) := by decide +kernel
theorem dX7_serves_108 : decode cX7_serves 108 = .ok (.iconst 2, 1) := by decide +kernel
theorem dX7_serves_109 : decode cX7_serves 109 = .ok (.invokevirtual 33, 3) := by decide +kernel
theorem dX7_serves_112 : decode cX7_serves 112 = .ok (.if_icmp .le 13, 3) := by decide +kernel
theorem dX7_serves_115 : decode cX7_serves 115 = .ok (.aload_n 0, 1) := by decide +kernel
theorem dX7_serves_116 : decode cX7_serves 116 = .ok (.iload 5, 2) := by decide +kernel
theorem dX7_serves_118 : decode cX7_serves 118 = .ok (.iconst 2, 1) := by decide +kernel
theorem dX7_serves_119 : decode cX7_serves 119 = .ok (.invokevirtual 33, 3) := by decide +kernel
theorem dX7_serves_122 : decode cX7_serves 122 = .ok (.goto 5, 3) := by decide +kernel
theorem dX7_serves_125 : decode cX7_serves 125 = .ok (.iload 6, 2) := by decide +kernel
theorem dX7_serves_127 : decode cX7_serves 127 = .ok (.istore 6, 2) := by decide +kernel
theorem dX7_serves_129 : decode cX7_serves 129 = .ok (.iload 6, 2) := by decide +kernel
theorem dX7_serves_131 : decode cX7_serves 131 = .ok (.iload 4, 2) := by decide +kernel
theorem dX7_serves_133 : decode cX7_serves 133 = .ok (.if_icmp .le 8, 3) := by decide +kernel
theorem dX7_serves_136 : decode cX7_serves 136 = .ok (.iload 4, 2) := by decide +kernel
theorem dX7_serves_138 : decode cX7_serves 138 = .ok (.goto 5, 3) := by decide +kernel
theorem dX7_serves_141 : decode cX7_serves 141 = .ok (.iload 6, 2) := by decide +kernel
theorem dX7_serves_143 : decode cX7_serves 143 = .ok (.istore 6, 2) := by decide +kernel
theorem dX7_serves_145 : decode cX7_serves 145 = .ok (.iload 4, 2) := by decide +kernel
theorem dX7_serves_147 : decode cX7_serves 147 = .ok (.iload 6, 2) := by decide +kernel
theorem dX7_serves_149 : decode cX7_serves 149 = .ok (.isub, 1) := by decide +kernel
theorem dX7_serves_150 : decode cX7_serves 150 = .ok (.istore 4, 2) := by decide +kernel
theorem dX7_serves_152 : decode cX7_serves 152 = .ok (.aload_n 0, 1) := by decide +kernel
theorem dX7_serves_153 : decode cX7_serves 153 = .ok (.getfield 7, 3) := by decide +kernel
theorem dX7_serves_156 : decode cX7_serves 156 = .ok (.bipush 82, 2) := by decide +kernel
theorem dX7_serves_158 : decode cX7_serves 158 = .ok (.bipush 7, 2) := by decide +kernel
theorem dX7_serves_160 : decode cX7_serves 160 = .ok (.iload 5, 2) := by decide +kernel
theorem dX7_serves_162 : decode cX7_serves 162 = .ok (.imul, 1) := by decide +kernel
theorem dX7_serves_163 : decode cX7_serves 163 = .ok (.iadd, 1) := by decide +kernel
theorem dX7_serves_164 : decode cX7_serves 164 = .ok (.iconst 4, 1) := by decide +kernel
theorem dX7_serves_165 : decode cX7_serves 165 = .ok (.iadd, 1) := by decide +kernel
theorem dX7_serves_166 : decode cX7_serves 166 = .ok (.dup2, 1) := by decide +kernel
theorem dX7_serves_167 : decode cX7_serves 167 = .ok (.iaload, 1) := by decide +kernel
theorem dX7_serves_168 : decode cX7_serves 168 = .ok (.iload 6, 2) := by decide +kernel
theorem dX7_serves_170 : decode cX7_serves 170 = .ok (.iadd, 1) := by decide +kernel
theorem dX7_serves_171 : decode cX7_serves 171 = .ok (.iastore, 1) := by decide +kernel
theorem dX7_serves_172 : decode cX7_serves 172 = .ok (.aload_n 0, 1) := by decide +kernel
theorem dX7_serves_173 : decode cX7_serves 173 = .ok (.getfield 7, 3) := by decide +kernel
theorem dX7_serves_176 : decode cX7_serves 176 = .ok (.bipush 82, 2) := by decide +kernel
theorem dX7_serves_178 : decode cX7_serves 178 = .ok (.bipush 7, 2) := by decide +kernel
theorem dX7_serves_180 : decode cX7_serves 180 = .ok (.iload 5, 2) := by decide +kernel
theorem dX7_serves_182 : decode cX7_serves 182 = .ok (.imul, 1) := by decide +kernel
theorem dX7_serves_183 : decode cX7_serves 183 = .ok (.iadd, 1) := by decide +kernel
theorem dX7_serves_184 : decode cX7_serves 184 = .ok (.bipush 6, 2) := by decide +kernel
theorem dX7_serves_186 : decode cX7_serves 186 = .ok (.iadd, 1) := by decide +kernel
theorem dX7_serves_187 : decode cX7_serves 187 = .ok (.iload 6, 2) := by decide +kernel
theorem dX7_serves_189 : decode cX7_serves 189 = .ok (.ifCond .le 21, 3) := by decide +kernel
theorem dX7_serves_192 : decode cX7_serves 192 = .ok (.aload_n 0, 1) := by decide +kernel
theorem dX7_serves_193 : decode cX7_serves 193 = .ok (.iload 5, 2) := by decide +kernel
theorem dX7_serves_195 : decode cX7_serves 195 = .ok (.invokevirtual 74, 3) := by decide +kernel
theorem dX7_serves_198 : decode cX7_serves 198 = .ok (.ifCond .ne 12, 3) := by decide +kernel
theorem dX7_serves_201 : decode cX7_serves 201 = .ok (.aload_n 0, 1) := by decide +kernel
theorem dX7_serves_202 : decode cX7_serves 202 = .ok (.getfield 7, 3) := by decide +kernel
theorem dX7_serves_205 : decode cX7_serves 205 = .ok (.iconst 5, 1) := by decide +kernel
theorem dX7_serves_206 : decode cX7_serves 206 = .ok (.iaload, 1) := by decide +kernel
theorem dX7_serves_207 : decode cX7_serves 207 = .ok (.goto 11, 3) := by decide +kernel
theorem dX7_serves_210 : decode cX7_serves 210 = .ok (.aload_n 0, 1) := by decide +kernel
theorem dX7_serves_211 : decode cX7_serves 211 = .ok (.iload 5, 2) := by decide +kernel
theorem dX7_serves_213 : decode cX7_serves 213 = .ok (.bipush 6, 2) := by decide +kernel
theorem dX7_serves_215 : decode cX7_serves 215 = .ok (.invokevirtual 33, 3) := by decide +kernel
theorem dX7_serves_218 : decode cX7_serves 218 = .ok (.iastore, 1) := by decide +kernel
theorem dX7_serves_219 : decode cX7_serves 219 = .ok (.aload_n 0, 1) := by decide +kernel
theorem dX7_serves_220 : decode cX7_serves 220 = .ok (.iload_n 3, 1) := by decide +kernel
theorem dX7_serves_221 : decode cX7_serves 221 = .ok (.invokevirtual 96, 3) := by decide +kernel
theorem dX7_serves_224 : decode cX7_serves 224 = .ok (.istore 5, 2) := by decide +kernel
theorem dX7_serves_226 : decode cX7_serves 226 = .ok (.goto (-154), 3) := by decide +kernel
theorem dX7_serves_229 : decode cX7_serves 229 = .ok (.aload_n 0, 1) := by decide +kernel
theorem dX7_serves_230 : decode cX7_serves 230 = .ok (.getfield 7, 3) := by decide +kernel
theorem dX7_serves_233 : decode cX7_serves 233 = .ok (.bipush 7, 2) := by decide +kernel
theorem dX7_serves_235 : decode cX7_serves 235 = .ok (.dup2, 1) := by decide +kernel
theorem dX7_serves_236 : decode cX7_serves 236 = .ok (.iaload, 1) := by decide +kernel
theorem dX7_serves_237 : decode cX7_serves 237 = .ok (.iload_n 2, 1) := by decide +kernel
theorem dX7_serves_238 : decode cX7_serves 238 = .ok (.iload 4, 2) := by decide +kernel
theorem dX7_serves_240 : decode cX7_serves 240 = .ok (.isub, 1) := by decide +kernel
theorem dX7_serves_241 : decode cX7_serves 241 = .ok (.iadd, 1) := by decide +kernel
theorem dX7_serves_242 : decode cX7_serves 242 = .ok (.iastore, 1) := by decide +kernel
theorem dX7_serves_243 : decode cX7_serves 243 = .ok (.iload 4, 2) := by decide +kernel
theorem dX7_serves_245 : decode cX7_serves 245 = .ok (.ireturn, 1) := by decide +kernel
theorem dX7_lets_0 : decode cX7_lets 0 = .ok (.aload_n 0, 1) := by decide +kernel
theorem dX7_lets_1 : decode cX7_lets 1 = .ok (.iload_n 1, 1) := by decide +kernel
theorem dX7_lets_2 : decode cX7_lets 2 = .ok (.iconst 0, 1) := by decide +kernel
theorem dX7_lets_3 : decode cX7_lets 3 = .ok (.invokevirtual 54, 3) := by decide +kernel
theorem dX7_lets_6 : decode cX7_lets 6 = .ok (.iload_n 2, 1) := by decide +kernel
theorem dX7_lets_7 : decode cX7_lets 7 = .ok (.if_icmp .ne 35, 3) := by decide +kernel
theorem dX7_lets_10 : decode cX7_lets 10 = .ok (.aload_n 0, 1) := by decide +kernel
theorem dX7_lets_11 : decode cX7_lets 11 = .ok (.iload_n 1, 1) := by decide +kernel
theorem dX7_lets_12 : decode cX7_lets 12 = .ok (.iconst 4, 1) := by decide +kernel
theorem dX7_lets_13 : decode cX7_lets 13 = .ok (.invokevirtual 54, 3) := by decide +kernel
theorem dX7_lets_16 : decode cX7_lets 16 = .ok (.iconst 1, 1) := by decide +kernel
theorem dX7_lets_17 : decode cX7_lets 17 = .ok (.if_icmp .ne 25, 3) := by decide +kernel
theorem dX7_lets_20 : decode cX7_lets 20 = .ok (.aload_n 0, 1) := by decide +kernel
theorem dX7_lets_21 : decode cX7_lets 21 = .ok (.iload_n 1, 1) := by decide +kernel
theorem dX7_lets_22 : decode cX7_lets 22 = .ok (.iconst 1, 1) := by decide +kernel
theorem dX7_lets_23 : decode cX7_lets 23 = .ok (.invokevirtual 54, 3) := by decide +kernel
theorem dX7_lets_26 : decode cX7_lets 26 = .ok (.iconst 2, 1) := by decide +kernel
theorem dX7_lets_27 : decode cX7_lets 27 = .ok (.if_icmp .ne 11, 3) := by decide +kernel
theorem dX7_lets_30 : decode cX7_lets 30 = .ok (.aload_n 0, 1) := by decide +kernel
theorem dX7_lets_31 : decode cX7_lets 31 = .ok (.iload_n 1, 1) := by decide +kernel
theorem dX7_lets_32 : decode cX7_lets 32 = .ok (.invokevirtual 99, 3) := by decide +kernel
theorem dX7_lets_35 : decode cX7_lets 35 = .ok (.ifCond .eq 7, 3) := by decide +kernel
theorem dX7_lets_38 : decode cX7_lets 38 = .ok (.iconst 1, 1) := by decide +kernel
theorem dX7_lets_39 : decode cX7_lets 39 = .ok (.goto 4, 3) := by decide +kernel
theorem dX7_lets_42 : decode cX7_lets 42 = .ok (.iconst 0, 1) := by decide +kernel
theorem dX7_lets_43 : decode cX7_lets 43 = .ok (.ireturn, 1) := by decide +kernel
theorem dX7_parts_0 : decode cX7_parts 0 = .ok (.iconst 0, 1) := by decide +kernel
theorem dX7_parts_1 : decode cX7_parts 1 = .ok (.istore_n 3, 1) := by decide +kernel
theorem dX7_parts_2 : decode cX7_parts 2 = .ok (.iload_n 1, 1) := by decide +kernel
theorem dX7_parts_3 : decode cX7_parts 3 = .ok (.iconst 1, 1) := by decide +kernel
theorem dX7_parts_4 : decode cX7_parts 4 = .ok (.iadd, 1) := by decide +kernel
theorem dX7_parts_5 : decode cX7_parts 5 = .ok (.istore 4, 2) := by decide +kernel
theorem dX7_parts_7 : decode cX7_parts 7 = .ok (.iload 4, 2) := by decide +kernel
theorem dX7_parts_9 : decode cX7_parts 9 = .ok (.aload_n 0, 1) := by decide +kernel
theorem dX7_parts_10 : decode cX7_parts 10 = .ok (.getfield 7, 3) := by decide +kernel
theorem dX7_parts_13 : decode cX7_parts 13 = .ok (.iconst 0, 1) := by decide +kernel
theorem dX7_parts_14 : decode cX7_parts 14 = .ok (.iaload, 1) := by decide +kernel
theorem dX7_parts_15 : decode cX7_parts 15 = .ok (.if_icmp .ge 27, 3) := by decide +kernel
theorem dX7_parts_18 : decode cX7_parts 18 = .ok (.iload_n 3, 1) := by decide +kernel
theorem dX7_parts_19 : decode cX7_parts 19 = .ok (.aload_n 0, 1) := by decide +kernel
theorem dX7_parts_20 : decode cX7_parts 20 = .ok (.iload 4, 2) := by decide +kernel
theorem dX7_parts_22 : decode cX7_parts 22 = .ok (.iload_n 1, 1) := by decide +kernel
theorem dX7_parts_23 : decode cX7_parts 23 = .ok (.invokevirtual 102, 3) := by decide +kernel
theorem dX7_parts_26 : decode cX7_parts 26 = .ok (.ifCond .eq 7, 3) := by decide +kernel
theorem dX7_parts_29 : decode cX7_parts 29 = .ok (.iconst 1, 1) := by decide +kernel
theorem dX7_parts_30 : decode cX7_parts 30 = .ok (.goto 4, 3) := by decide +kernel
theorem dX7_parts_33 : decode cX7_parts 33 = .ok (.iconst 0, 1) := by decide +kernel
theorem dX7_parts_34 : decode cX7_parts 34 = .ok (.iadd, 1) := by decide +kernel
theorem dX7_parts_35 : decode cX7_parts 35 = .ok (.istore_n 3, 1) := by decide +kernel
theorem dX7_parts_36 : decode cX7_parts 36 = .ok (.iinc 4 1, 3) := by decide +kernel
theorem dX7_parts_39 : decode cX7_parts 39 = .ok (.goto (-32), 3) := by decide +kernel
theorem dX7_parts_42 : decode cX7_parts 42 = .ok (.iload_n 2, 1) := by decide +kernel
theorem dX7_parts_43 : decode cX7_parts 43 = .ok (.istore 4, 2) := by decide +kernel
theorem dX7_parts_45 : decode cX7_parts 45 = .ok (.iload_n 3, 1) := by decide +kernel
theorem dX7_parts_46 : decode cX7_parts 46 = .ok (.ifCond .ne 7, 3) := by decide +kernel
theorem dX7_parts_49 : decode cX7_parts 49 = .ok (.iconst 0, 1) := by decide +kernel
theorem dX7_parts_50 : decode cX7_parts 50 = .ok (.goto 6, 3) := by decide +kernel
theorem dX7_parts_53 : decode cX7_parts 53 = .ok (.iload_n 2, 1) := by decide +kernel
theorem dX7_parts_54 : decode cX7_parts 54 = .ok (.iload_n 3, 1) := by decide +kernel
theorem dX7_parts_55 : decode cX7_parts 55 = .ok (.irem, 1) := by decide +kernel
theorem dX7_parts_56 : decode cX7_parts 56 = .ok (.istore 5, 2) := by decide +kernel
theorem dX7_parts_58 : decode cX7_parts 58 = .ok (.iload_n 1, 1) := by decide +kernel
theorem dX7_parts_59 : decode cX7_parts 59 = .ok (.iconst 1, 1) := by decide +kernel
theorem dX7_parts_60 : decode cX7_parts 60 = .ok (.iadd, 1) := by decide +kernel
theorem dX7_parts_61 : decode cX7_parts 61 = .ok (.istore 6, 2) := by decide +kernel
theorem dX7_parts_63 : decode cX7_parts 63 = .ok (.iload 6, 2) := by decide +kernel
theorem dX7_parts_65 : decode cX7_parts 65 = .ok (.aload_n 0, 1) := by decide +kernel
theorem dX7_parts_66 : decode cX7_parts 66 = .ok (.getfield 7, 3) := by decide +kernel
theorem dX7_parts_69 : decode cX7_parts 69 = .ok (.iconst 0, 1) := by decide +kernel
theorem dX7_parts_70 : decode cX7_parts 70 = .ok (.iaload, 1) := by decide +kernel
theorem dX7_parts_71 : decode cX7_parts 71 = .ok (.if_icmp .ge 125, 3) := by decide +kernel
theorem dX7_parts_74 : decode cX7_parts 74 = .ok (.aload_n 0, 1) := by decide +kernel
theorem dX7_parts_75 : decode cX7_parts 75 = .ok (.iload 6, 2) := by decide +kernel
theorem dX7_parts_77 : decode cX7_parts 77 = .ok (.iload_n 1, 1) := by decide +kernel
theorem dX7_parts_78 : decode cX7_parts 78 = .ok (.invokevirtual 102, 3) := by decide +kernel
theorem dX7_parts_81 : decode cX7_parts 81 = .ok (.ifCond .eq 109, 3) := by decide +kernel
theorem dX7_parts_84 : decode cX7_parts 84 = .ok (.iload_n 2, 1) := by decide +kernel
theorem dX7_parts_85 : decode cX7_parts 85 = .ok (.iload_n 3, 1) := by decide +kernel
theorem dX7_parts_86 : decode cX7_parts 86 = .ok (.idiv, 1) := by decide +kernel
theorem dX7_parts_87 : decode cX7_parts 87 = .ok (.iload 5, 2) := by decide +kernel
theorem dX7_parts_89 : decode cX7_parts 89 = .ok (.ifCond .le 7, 3) := by decide +kernel
theorem dX7_parts_92 : decode cX7_parts 92 = .ok (.iconst 1, 1) := by decide +kernel
theorem dX7_parts_93 : decode cX7_parts 93 = .ok (.goto 4, 3) := by decide +kernel
theorem dX7_parts_96 : decode cX7_parts 96 = .ok (.iconst 0, 1) := by decide +kernel
theorem dX7_parts_97 : decode cX7_parts 97 = .ok (.iadd, 1) := by decide +kernel
theorem dX7_parts_98 : decode cX7_parts 98 = .ok (.istore 7, 2) := by decide +kernel
theorem dX7_parts_100 : decode cX7_parts 100 = .ok (.iload 5, 2) := by decide +kernel
theorem dX7_parts_102 : decode cX7_parts 102 = .ok (.iload 5, 2) := by decide +kernel
theorem dX7_parts_104 : decode cX7_parts 104 = .ok (.ifCond .le 7, 3) := by decide +kernel
theorem dX7_parts_107 : decode cX7_parts 107 = .ok (.iconst 1, 1) := by decide +kernel
theorem dX7_parts_108 : decode cX7_parts 108 = .ok (.goto 4, 3) := by decide +kernel
theorem dX7_parts_111 : decode cX7_parts 111 = .ok (.iconst 0, 1) := by decide +kernel
theorem dX7_parts_112 : decode cX7_parts 112 = .ok (.isub, 1) := by decide +kernel
theorem dX7_parts_113 : decode cX7_parts 113 = .ok (.istore 5, 2) := by decide +kernel
theorem dX7_parts_115 : decode cX7_parts 115 = .ok (.aload_n 0, 1) := by decide +kernel
theorem dX7_parts_116 : decode cX7_parts 116 = .ok (.iload 6, 2) := by decide +kernel
theorem dX7_parts_118 : decode cX7_parts 118 = .ok (.iconst 1, 1) := by decide +kernel
theorem dX7_parts_119 : decode cX7_parts 119 = .ok (.invokevirtual 54, 3) := by decide +kernel
theorem dX7_parts_122 : decode cX7_parts 122 = .ok (.iconst 1, 1) := by decide +kernel
theorem dX7_parts_123 : decode cX7_parts 123 = .ok (.if_icmp .ne 12, 3) := by decide +kernel
theorem dX7_parts_126 : decode cX7_parts 126 = .ok (.iload 7, 2) := by decide +kernel
theorem dX7_parts_128 : decode cX7_parts 128 = .ok (.iconst 1, 1) := by decide +kernel
theorem dX7_parts_129 : decode cX7_parts 129 = .ok (.iadd, 1) := by decide +kernel
theorem dX7_parts_130 : decode cX7_parts 130 = .ok (.iconst 2, 1) := by decide +kernel
theorem dX7_parts_131 : decode cX7_parts 131 = .ok (.idiv, 1) := by decide +kernel
theorem dX7_parts_132 : decode cX7_parts 132 = .ok (.goto 5, 3) := by decide +kernel
theorem dX7_parts_135 : decode cX7_parts 135 = .ok (.iload 7, 2) := by decide +kernel
theorem dX7_parts_137 : decode cX7_parts 137 = .ok (.istore 7, 2) := by decide +kernel
theorem dX7_parts_139 : decode cX7_parts 139 = .ok (.iload 7, 2) := by decide +kernel
theorem dX7_parts_141 : decode cX7_parts 141 = .ok (.aload_n 0, 1) := by decide +kernel
theorem dX7_parts_142 : decode cX7_parts 142 = .ok (.iload 6, 2) := by decide +kernel
theorem dX7_parts_144 : decode cX7_parts 144 = .ok (.iconst 2, 1) := by decide +kernel
theorem dX7_parts_145 : decode cX7_parts 145 = .ok (.invokevirtual 54, 3) := by decide +kernel
theorem dX7_parts_148 : decode cX7_parts 148 = .ok (.if_icmp .le 13, 3) := by decide +kernel
theorem dX7_parts_151 : decode cX7_parts 151 = .ok (.aload_n 0, 1) := by decide +kernel
theorem dX7_parts_152 : decode cX7_parts 152 = .ok (.iload 6, 2) := by decide +kernel
theorem dX7_parts_154 : decode cX7_parts 154 = .ok (.iconst 2, 1) := by decide +kernel
theorem dX7_parts_155 : decode cX7_parts 155 = .ok (.invokevirtual 54, 3) := by decide +kernel
theorem dX7_parts_158 : decode cX7_parts 158 = .ok (.goto 5, 3) := by decide +kernel
theorem dX7_parts_161 : decode cX7_parts 161 = .ok (.iload 7, 2) := by decide +kernel
theorem dX7_parts_163 : decode cX7_parts 163 = .ok (.istore 7, 2) := by decide +kernel
theorem dX7_parts_165 : decode cX7_parts 165 = .ok (.aload_n 0, 1) := by decide +kernel
theorem dX7_parts_166 : decode cX7_parts 166 = .ok (.getfield 7, 3) := by decide +kernel
theorem dX7_parts_169 : decode cX7_parts 169 = .ok (.bipush 10, 2) := by decide +kernel
theorem dX7_parts_171 : decode cX7_parts 171 = .ok (.bipush 9, 2) := by decide +kernel
theorem dX7_parts_173 : decode cX7_parts 173 = .ok (.iload 6, 2) := by decide +kernel
theorem dX7_parts_175 : decode cX7_parts 175 = .ok (.imul, 1) := by decide +kernel
theorem dX7_parts_176 : decode cX7_parts 176 = .ok (.iadd, 1) := by decide +kernel
theorem dX7_parts_177 : decode cX7_parts 177 = .ok (.bipush 6, 2) := by decide +kernel
theorem dX7_parts_179 : decode cX7_parts 179 = .ok (.iadd, 1) := by decide +kernel
theorem dX7_parts_180 : decode cX7_parts 180 = .ok (.iload 7, 2) := by decide +kernel
theorem dX7_parts_182 : decode cX7_parts 182 = .ok (.iastore, 1) := by decide +kernel
theorem dX7_parts_183 : decode cX7_parts 183 = .ok (.iload 4, 2) := by decide +kernel
theorem dX7_parts_185 : decode cX7_parts 185 = .ok (.iload 7, 2) := by decide +kernel
theorem dX7_parts_187 : decode cX7_parts 187 = .ok (.isub, 1) := by decide +kernel
theorem dX7_parts_188 : decode cX7_parts 188 = .ok (.istore 4, 2) := by decide +kernel
theorem dX7_parts_190 : decode cX7_parts 190 = .ok (.iinc 6 1, 3) := by decide +kernel
theorem dX7_parts_193 : decode cX7_parts 193 = .ok (.goto (-130), 3) := by decide +kernel
theorem dX7_parts_196 : decode cX7_parts 196 = .ok (.iload 4, 2) := by decide +kernel
theorem dX7_parts_198 : decode cX7_parts 198 = .ok (.ireturn, 1) := by decide +kernel
theorem dX7_flows_0 : decode cX7_flows 0 = .ok (.aload_n 0, 1) := by decide +kernel
theorem dX7_flows_1 : decode cX7_flows 1 = .ok (.getfield 7, 3) := by decide +kernel
theorem dX7_flows_4 : decode cX7_flows 4 = .ok (.bipush 7, 2) := by decide +kernel
theorem dX7_flows_6 : decode cX7_flows 6 = .ok (.iaload, 1) := by decide +kernel
theorem dX7_flows_7 : decode cX7_flows 7 = .ok (.istore_n 2, 1) := by decide +kernel
theorem dX7_flows_8 : decode cX7_flows 8 = .ok (.aload_n 0, 1) := by decide +kernel
theorem dX7_flows_9 : decode cX7_flows 9 = .ok (.getfield 7, 3) := by decide +kernel
theorem dX7_flows_12 : decode cX7_flows 12 = .ok (.iconst 5, 1) := by decide +kernel
theorem dX7_flows_13 : decode cX7_flows 13 = .ok (.dup2, 1) := by decide +kernel
theorem dX7_flows_14 : decode cX7_flows 14 = .ok (.iaload, 1) := by decide +kernel
theorem dX7_flows_15 : decode cX7_flows 15 = .ok (.iconst 1, 1) := by decide +kernel
theorem dX7_flows_16 : decode cX7_flows 16 = .ok (.iadd, 1) := by decide +kernel
theorem dX7_flows_17 : decode cX7_flows 17 = .ok (.iastore, 1) := by decide +kernel
theorem dX7_flows_18 : decode cX7_flows 18 = .ok (.iconst 0, 1) := by decide +kernel
theorem dX7_flows_19 : decode cX7_flows 19 = .ok (.istore_n 3, 1) := by decide +kernel
theorem dX7_flows_20 : decode cX7_flows 20 = .ok (.iload_n 3, 1) := by decide +kernel
theorem dX7_flows_21 : decode cX7_flows 21 = .ok (.aload_n 0, 1) := by decide +kernel
theorem dX7_flows_22 : decode cX7_flows 22 = .ok (.getfield 7, 3) := by decide +kernel
theorem dX7_flows_25 : decode cX7_flows 25 = .ok (.iconst 0, 1) := by decide +kernel
theorem dX7_flows_26 : decode cX7_flows 26 = .ok (.iaload, 1) := by decide +kernel
theorem dX7_flows_27 : decode cX7_flows 27 = .ok (.if_icmp .ge 25, 3) := by decide +kernel
theorem dX7_flows_30 : decode cX7_flows 30 = .ok (.aload_n 0, 1) := by decide +kernel
theorem dX7_flows_31 : decode cX7_flows 31 = .ok (.getfield 7, 3) := by decide +kernel
theorem dX7_flows_34 : decode cX7_flows 34 = .ok (.bipush 10, 2) := by decide +kernel
theorem dX7_flows_36 : decode cX7_flows 36 = .ok (.bipush 9, 2) := by decide +kernel
theorem dX7_flows_38 : decode cX7_flows 38 = .ok (.iload_n 3, 1) := by decide +kernel
theorem dX7_flows_39 : decode cX7_flows 39 = .ok (.imul, 1) := by decide +kernel
theorem dX7_flows_40 : decode cX7_flows 40 = .ok (.iadd, 1) := by decide +kernel
theorem dX7_flows_41 : decode cX7_flows 41 = .ok (.bipush 6, 2) := by decide +kernel
theorem dX7_flows_43 : decode cX7_flows 43 = .ok (.iadd, 1) := by decide +kernel
theorem dX7_flows_44 : decode cX7_flows 44 = .ok (.iconst 0, 1) := by decide +kernel
theorem dX7_flows_45 : decode cX7_flows 45 = .ok (.iastore, 1) := by decide +kernel
theorem dX7_flows_46 : decode cX7_flows 46 = .ok (.iinc 3 1, 3) := by decide +kernel
theorem dX7_flows_49 : decode cX7_flows 49 = .ok (.goto (-29), 3) := by decide +kernel
theorem dX7_flows_52 : decode cX7_flows 52 = .ok (.iload_n 1, 1) := by decide +kernel
theorem dX7_flows_53 : decode cX7_flows 53 = .ok (.aload_n 0, 1) := by decide +kernel
theorem dX7_flows_54 : decode cX7_flows 54 = .ok (.iconst 0, 1) := by decide +kernel
theorem dX7_flows_55 : decode cX7_flows 55 = .ok (.iconst 2, 1) := by decide +kernel
theorem dX7_flows_56 : decode cX7_flows 56 = .ok (.invokevirtual 54, 3) := by decide +kernel
theorem dX7_flows_59 : decode cX7_flows 59 = .ok (.if_icmp .le 12, 3) := by decide +kernel
theorem dX7_flows_62 : decode cX7_flows 62 = .ok (.aload_n 0, 1) := by decide +kernel
theorem dX7_flows_63 : decode cX7_flows 63 = .ok (.iconst 0, 1) := by decide +kernel
theorem dX7_flows_64 : decode cX7_flows 64 = .ok (.iconst 2, 1) := by decide +kernel
theorem dX7_flows_65 : decode cX7_flows 65 = .ok (.invokevirtual 54, 3) := by decide +kernel
theorem dX7_flows_68 : decode cX7_flows 68 = .ok (.goto 4, 3) := by decide +kernel
theorem dX7_flows_71 : decode cX7_flows 71 = .ok (.iload_n 1, 1) := by decide +kernel
theorem dX7_flows_72 : decode cX7_flows 72 = .ok (.istore_n 3, 1) := by decide +kernel
theorem dX7_flows_73 : decode cX7_flows 73 = .ok (.aload_n 0, 1) := by decide +kernel
theorem dX7_flows_74 : decode cX7_flows 74 = .ok (.getfield 7, 3) := by decide +kernel
theorem dX7_flows_77 : decode cX7_flows 77 = .ok (.bipush 16, 2) := by decide +kernel
theorem dX7_flows_79 : decode cX7_flows 79 = .ok (.iload_n 3, 1) := by decide +kernel
theorem dX7_flows_80 : decode cX7_flows 80 = .ok (.iastore, 1) := by decide +kernel
theorem dX7_flows_81 : decode cX7_flows 81 = .ok (.aload_n 0, 1) := by decide +kernel
theorem dX7_flows_82 : decode cX7_flows 82 = .ok (.getfield 7, 3) := by decide +kernel
theorem dX7_flows_85 : decode cX7_flows 85 = .ok (.bipush 6, 2) := by decide +kernel
theorem dX7_flows_87 : decode cX7_flows 87 = .ok (.dup2, 1) := by decide +kernel
theorem dX7_flows_88 : decode cX7_flows 88 = .ok (.iaload, 1) := by decide +kernel
theorem dX7_flows_89 : decode cX7_flows 89 = .ok (.iload_n 3, 1) := by decide +kernel
theorem dX7_flows_90 : decode cX7_flows 90 = .ok (.iadd, 1) := by decide +kernel
theorem dX7_flows_91 : decode cX7_flows 91 = .ok (.iastore, 1) := by decide +kernel
theorem dX7_flows_92 : decode cX7_flows 92 = .ok (.iconst 0, 1) := by decide +kernel
theorem dX7_flows_93 : decode cX7_flows 93 = .ok (.istore 4, 2) := by decide +kernel
theorem dX7_flows_95 : decode cX7_flows 95 = .ok (.iload 4, 2) := by decide +kernel
theorem dX7_flows_97 : decode cX7_flows 97 = .ok (.aload_n 0, 1) := by decide +kernel
theorem dX7_flows_98 : decode cX7_flows 98 = .ok (.getfield 7, 3) := by decide +kernel
theorem dX7_flows_101 : decode cX7_flows 101 = .ok (.iconst 0, 1) := by decide +kernel
theorem dX7_flows_102 : decode cX7_flows 102 = .ok (.iaload, 1) := by decide +kernel
theorem dX7_flows_103 : decode cX7_flows 103 = .ok (.if_icmp .ge 124, 3) := by decide +kernel
theorem dX7_flows_106 : decode cX7_flows 106 = .ok (.aload_n 0, 1) := by decide +kernel
theorem dX7_flows_107 : decode cX7_flows 107 = .ok (.iload 4, 2) := by decide +kernel
theorem dX7_flows_109 : decode cX7_flows 109 = .ok (.bipush 6, 2) := by decide +kernel
theorem dX7_flows_111 : decode cX7_flows 111 = .ok (.invokevirtual 54, 3) := by decide +kernel
theorem dX7_flows_114 : decode cX7_flows 114 = .ok (.istore 5, 2) := by decide +kernel
theorem dX7_flows_116 : decode cX7_flows 116 = .ok (.iload 5, 2) := by decide +kernel
theorem dX7_flows_118 : decode cX7_flows 118 = .ok (.aload_n 0, 1) := by decide +kernel
theorem dX7_flows_119 : decode cX7_flows 119 = .ok (.iload 4, 2) := by decide +kernel
theorem dX7_flows_121 : decode cX7_flows 121 = .ok (.iconst 3, 1) := by decide +kernel
theorem dX7_flows_122 : decode cX7_flows 122 = .ok (.invokevirtual 54, 3) := by decide +kernel
theorem dX7_flows_125 : decode cX7_flows 125 = .ok (.imul, 1) := by decide +kernel
theorem dX7_flows_126 : decode cX7_flows 126 = .ok (.sipush 999, 3) := by decide +kernel
theorem dX7_flows_129 : decode cX7_flows 129 = .ok (.iadd, 1) := by decide +kernel
theorem dX7_flows_130 : decode cX7_flows 130 = .ok (.sipush 1000, 3) := by decide +kernel
theorem dX7_flows_133 : decode cX7_flows 133 = .ok (.idiv, 1) := by decide +kernel
theorem dX7_flows_134 : decode cX7_flows 134 = .ok (.istore 6, 2) := by decide +kernel
theorem dX7_flows_136 : decode cX7_flows 136 = .ok (.aload_n 0, 1) := by decide +kernel
theorem dX7_flows_137 : decode cX7_flows 137 = .ok (.getfield 7, 3) := by decide +kernel
theorem dX7_flows_140 : decode cX7_flows 140 = .ok (.bipush 10, 2) := by decide +kernel
theorem dX7_flows_142 : decode cX7_flows 142 = .ok (.bipush 9, 2) := by decide +kernel
theorem dX7_flows_144 : decode cX7_flows 144 = .ok (.iload 4, 2) := by decide +kernel
theorem dX7_flows_146 : decode cX7_flows 146 = .ok (.imul, 1) := by decide +kernel
theorem dX7_flows_147 : decode cX7_flows 147 = .ok (.iadd, 1) := by decide +kernel
theorem dX7_flows_148 : decode cX7_flows 148 = .ok (.bipush 7, 2) := by decide +kernel
theorem dX7_flows_150 : decode cX7_flows 150 = .ok (.iadd, 1) := by decide +kernel
theorem dX7_flows_151 : decode cX7_flows 151 = .ok (.dup2, 1) := by decide +kernel
theorem dX7_flows_152 : decode cX7_flows 152 = .ok (.iaload, 1) := by decide +kernel
theorem dX7_flows_153 : decode cX7_flows 153 = .ok (.iload 6, 2) := by decide +kernel
theorem dX7_flows_155 : decode cX7_flows 155 = .ok (.iadd, 1) := by decide +kernel
theorem dX7_flows_156 : decode cX7_flows 156 = .ok (.iastore, 1) := by decide +kernel
theorem dX7_flows_157 : decode cX7_flows 157 = .ok (.aload_n 0, 1) := by decide +kernel
theorem dX7_flows_158 : decode cX7_flows 158 = .ok (.getfield 7, 3) := by decide +kernel
theorem dX7_flows_161 : decode cX7_flows 161 = .ok (.bipush 8, 2) := by decide +kernel
theorem dX7_flows_163 : decode cX7_flows 163 = .ok (.dup2, 1) := by decide +kernel
theorem dX7_flows_164 : decode cX7_flows 164 = .ok (.iaload, 1) := by decide +kernel
theorem dX7_flows_165 : decode cX7_flows 165 = .ok (.iload 6, 2) := by decide +kernel
theorem dX7_flows_167 : decode cX7_flows 167 = .ok (.iadd, 1) := by decide +kernel
theorem dX7_flows_168 : decode cX7_flows 168 = .ok (.iastore, 1) := by decide +kernel
theorem dX7_flows_169 : decode cX7_flows 169 = .ok (.aload_n 0, 1) := by decide +kernel
theorem dX7_flows_170 : decode cX7_flows 170 = .ok (.iload 4, 2) := by decide +kernel
theorem dX7_flows_172 : decode cX7_flows 172 = .ok (.aload_n 0, 1) := by decide +kernel
theorem dX7_flows_173 : decode cX7_flows 173 = .ok (.iload 4, 2) := by decide +kernel
theorem dX7_flows_175 : decode cX7_flows 175 = .ok (.iload 5, 2) := by decide +kernel
theorem dX7_flows_177 : decode cX7_flows 177 = .ok (.iload 6, 2) := by decide +kernel
theorem dX7_flows_179 : decode cX7_flows 179 = .ok (.isub, 1) := by decide +kernel
theorem dX7_flows_180 : decode cX7_flows 180 = .ok (.invokevirtual 106, 3) := by decide +kernel
theorem dX7_flows_183 : decode cX7_flows 183 = .ok (.invokevirtual 109, 3) := by decide +kernel
theorem dX7_flows_186 : decode cX7_flows 186 = .ok (.istore 7, 2) := by decide +kernel
theorem dX7_flows_188 : decode cX7_flows 188 = .ok (.aload_n 0, 1) := by decide +kernel
theorem dX7_flows_189 : decode cX7_flows 189 = .ok (.getfield 7, 3) := by decide +kernel
theorem dX7_flows_192 : decode cX7_flows 192 = .ok (.bipush 10, 2) := by decide +kernel
theorem dX7_flows_194 : decode cX7_flows 194 = .ok (.bipush 9, 2) := by decide +kernel
theorem dX7_flows_196 : decode cX7_flows 196 = .ok (.iload 4, 2) := by decide +kernel
theorem dX7_flows_198 : decode cX7_flows 198 = .ok (.imul, 1) := by decide +kernel
theorem dX7_flows_199 : decode cX7_flows 199 = .ok (.iadd, 1) := by decide +kernel
theorem dX7_flows_200 : decode cX7_flows 200 = .ok (.bipush 8, 2) := by decide +kernel
theorem dX7_flows_202 : decode cX7_flows 202 = .ok (.iadd, 1) := by decide +kernel
theorem dX7_flows_203 : decode cX7_flows 203 = .ok (.dup2, 1) := by decide +kernel
theorem dX7_flows_204 : decode cX7_flows 204 = .ok (.iaload, 1) := by decide +kernel
theorem dX7_flows_205 : decode cX7_flows 205 = .ok (.iload 7, 2) := by decide +kernel
theorem dX7_flows_207 : decode cX7_flows 207 = .ok (.iadd, 1) := by decide +kernel
theorem dX7_flows_208 : decode cX7_flows 208 = .ok (.iastore, 1) := by decide +kernel
theorem dX7_flows_209 : decode cX7_flows 209 = .ok (.aload_n 0, 1) := by decide +kernel
theorem dX7_flows_210 : decode cX7_flows 210 = .ok (.getfield 7, 3) := by decide +kernel
theorem dX7_flows_213 : decode cX7_flows 213 = .ok (.bipush 9, 2) := by decide +kernel
theorem dX7_flows_215 : decode cX7_flows 215 = .ok (.dup2, 1) := by decide +kernel
theorem dX7_flows_216 : decode cX7_flows 216 = .ok (.iaload, 1) := by decide +kernel
theorem dX7_flows_217 : decode cX7_flows 217 = .ok (.iload 7, 2) := by decide +kernel
theorem dX7_flows_219 : decode cX7_flows 219 = .ok (.iadd, 1) := by decide +kernel
theorem dX7_flows_220 : decode cX7_flows 220 = .ok (.iastore, 1) := by decide +kernel
theorem dX7_flows_221 : decode cX7_flows 221 = .ok (.iinc 4 1, 3) := by decide +kernel
theorem dX7_flows_224 : decode cX7_flows 224 = .ok (.goto (-129), 3) := by decide +kernel
theorem dX7_flows_227 : decode cX7_flows 227 = .ok (.iconst 0, 1) := by decide +kernel
theorem dX7_flows_228 : decode cX7_flows 228 = .ok (.istore 4, 2) := by decide +kernel
theorem dX7_flows_230 : decode cX7_flows 230 = .ok (.iload 4, 2) := by decide +kernel
theorem dX7_flows_232 : decode cX7_flows 232 = .ok (.aload_n 0, 1) := by decide +kernel
theorem dX7_flows_233 : decode cX7_flows 233 = .ok (.getfield 7, 3) := by decide +kernel
theorem dX7_flows_236 : decode cX7_flows 236 = .ok (.iconst 1, 1) := by decide +kernel
theorem dX7_flows_237 : decode cX7_flows 237 = .ok (.iaload, 1) := by decide +kernel
theorem dX7_flows_238 : decode cX7_flows 238 = .ok (.if_icmp .ge 44, 3) := by decide +kernel
theorem dX7_flows_241 : decode cX7_flows 241 = .ok (.aload_n 0, 1) := by decide +kernel
theorem dX7_flows_242 : decode cX7_flows 242 = .ok (.getfield 7, 3) := by decide +kernel
theorem dX7_flows_245 : decode cX7_flows 245 = .ok (.bipush 82, 2) := by decide +kernel
theorem dX7_flows_247 : decode cX7_flows 247 = .ok (.bipush 7, 2) := by decide +kernel
theorem dX7_flows_249 : decode cX7_flows 249 = .ok (.iload 4, 2) := by decide +kernel
theorem dX7_flows_251 : decode cX7_flows 251 = .ok (.imul, 1) := by decide +kernel
theorem dX7_flows_252 : decode cX7_flows 252 = .ok (.iadd, 1) := by decide +kernel
theorem dX7_flows_253 : decode cX7_flows 253 = .ok (.iconst 5, 1) := by decide +kernel
theorem dX7_flows_254 : decode cX7_flows 254 = .ok (.iadd, 1) := by decide +kernel
theorem dX7_flows_255 : decode cX7_flows 255 = .ok (.aload_n 0, 1) := by decide +kernel
theorem dX7_flows_256 : decode cX7_flows 256 = .ok (.iload 4, 2) := by decide +kernel
theorem dX7_flows_258 : decode cX7_flows 258 = .ok (.invokevirtual 74, 3) := by decide +kernel
theorem dX7_flows_261 : decode cX7_flows 261 = .ok (.ifCond .eq 13, 3) := by decide +kernel
theorem dX7_flows_264 : decode cX7_flows 264 = .ok (.aload_n 0, 1) := by decide +kernel
theorem dX7_flows_265 : decode cX7_flows 265 = .ok (.iload 4, 2) := by decide +kernel
theorem dX7_flows_267 : decode cX7_flows 267 = .ok (.iconst 5, 1) := by decide +kernel
theorem dX7_flows_268 : decode cX7_flows 268 = .ok (.invokevirtual 33, 3) := by decide +kernel
theorem dX7_flows_271 : decode cX7_flows 271 = .ok (.goto 4, 3) := by decide +kernel
theorem dX7_flows_274 : decode cX7_flows 274 = .ok (.iconst 0, 1) := by decide +kernel
theorem dX7_flows_275 : decode cX7_flows 275 = .ok (.iastore, 1) := by decide +kernel
theorem dX7_flows_276 : decode cX7_flows 276 = .ok (.iinc 4 1, 3) := by decide +kernel
theorem dX7_flows_279 : decode cX7_flows 279 = .ok (.goto (-49), 3) := by decide +kernel
theorem dX7_flows_282 : decode cX7_flows 282 = .ok (.aload_n 0, 1) := by decide +kernel
theorem dX7_flows_283 : decode cX7_flows 283 = .ok (.getfield 7, 3) := by decide +kernel
theorem dX7_flows_286 : decode cX7_flows 286 = .ok (.bipush 7, 2) := by decide +kernel
theorem dX7_flows_288 : decode cX7_flows 288 = .ok (.iaload, 1) := by decide +kernel
theorem dX7_flows_289 : decode cX7_flows 289 = .ok (.iload_n 2, 1) := by decide +kernel
theorem dX7_flows_290 : decode cX7_flows 290 = .ok (.isub, 1) := by decide +kernel
theorem dX7_flows_291 : decode cX7_flows 291 = .ok (.ireturn, 1) := by decide +kernel
theorem dX7_goes_0 : decode cX7_goes 0 = .ok (.iload_n 1, 1) := by decide +kernel
theorem dX7_goes_1 : decode cX7_goes 1 = .ok (.iconst 0, 1) := by decide +kernel
theorem dX7_goes_2 : decode cX7_goes 2 = .ok (.sipush 999, 3) := by decide +kernel
theorem dX7_goes_5 : decode cX7_goes 5 = .ok (.invokestatic 29, 3) := by decide +kernel
theorem dX7_goes_8 : decode cX7_goes 8 = .ok (.ifCond .ne 6, 3) := by decide +kernel
theorem dX7_goes_11 : decode cX7_goes 11 = .ok (.ldc 37, 2) := by decide +kernel
theorem dX7_goes_13 : decode cX7_goes 13 = .ok (.ireturn, 1) := by decide +kernel
theorem dX7_goes_14 : decode cX7_goes 14 = .ok (.aload_n 0, 1) := by decide +kernel
theorem dX7_goes_15 : decode cX7_goes 15 = .ok (.getfield 7, 3) := by decide +kernel
theorem dX7_goes_18 : decode cX7_goes 18 = .ok (.iconst 5, 1) := by decide +kernel
theorem dX7_goes_19 : decode cX7_goes 19 = .ok (.iaload, 1) := by decide +kernel
theorem dX7_goes_20 : decode cX7_goes 20 = .ok (.sipush 20000, 3) := by decide +kernel
theorem dX7_goes_23 : decode cX7_goes 23 = .ok (.if_icmp .ne 8, 3) := by decide +kernel
theorem dX7_goes_26 : decode cX7_goes 26 = .ok (.ldc 46, 2) := by decide +kernel
theorem dX7_goes_28 : decode cX7_goes 28 = .ok (.goto 8, 3) := by decide +kernel
theorem dX7_goes_31 : decode cX7_goes 31 = .ok (.aload_n 0, 1) := by decide +kernel
theorem dX7_goes_32 : decode cX7_goes 32 = .ok (.iload_n 1, 1) := by decide +kernel
theorem dX7_goes_33 : decode cX7_goes 33 = .ok (.invokevirtual 112, 3) := by decide +kernel
theorem dX7_goes_36 : decode cX7_goes 36 = .ok (.ireturn, 1) := by decide +kernel
theorem dX7_hour_0 : decode cX7_hour 0 = .ok (.aload_n 0, 1) := by decide +kernel
theorem dX7_hour_1 : decode cX7_hour 1 = .ok (.invokevirtual 47, 3) := by decide +kernel
theorem dX7_hour_4 : decode cX7_hour 4 = .ok (.aload_n 0, 1) := by decide +kernel
theorem dX7_hour_5 : decode cX7_hour 5 = .ok (.aload_n 0, 1) := by decide +kernel
theorem dX7_hour_6 : decode cX7_hour 6 = .ok (.iload_n 1, 1) := by decide +kernel
theorem dX7_hour_7 : decode cX7_hour 7 = .ok (.invokevirtual 115, 3) := by decide +kernel
theorem dX7_hour_10 : decode cX7_hour 10 = .ok (.invokevirtual 50, 3) := by decide +kernel
theorem dX7_hour_13 : decode cX7_hour 13 = .ok (.ireturn, 1) := by decide +kernel
theorem dX7_runsOne_0 : decode cX7_runsOne 0 = .ok (.aload_n 0, 1) := by decide +kernel
theorem dX7_runsOne_1 : decode cX7_runsOne 1 = .ok (.getfield 7, 3) := by decide +kernel
theorem dX7_runsOne_4 : decode cX7_runsOne 4 = .ok (.iconst 2, 1) := by decide +kernel
theorem dX7_runsOne_5 : decode cX7_runsOne 5 = .ok (.iaload, 1) := by decide +kernel
theorem dX7_runsOne_6 : decode cX7_runsOne 6 = .ok (.ifCond .le 33, 3) := by decide +kernel
theorem dX7_runsOne_9 : decode cX7_runsOne 9 = .ok (.aload_n 0, 1) := by decide +kernel
theorem dX7_runsOne_10 : decode cX7_runsOne 10 = .ok (.getfield 7, 3) := by decide +kernel
theorem dX7_runsOne_13 : decode cX7_runsOne 13 = .ok (.iconst 4, 1) := by decide +kernel
theorem dX7_runsOne_14 : decode cX7_runsOne 14 = .ok (.iaload, 1) := by decide +kernel
theorem dX7_runsOne_15 : decode cX7_runsOne 15 = .ok (.ifCond .ne 24, 3) := by decide +kernel
theorem dX7_runsOne_18 : decode cX7_runsOne 18 = .ok (.aload_n 0, 1) := by decide +kernel
theorem dX7_runsOne_19 : decode cX7_runsOne 19 = .ok (.aload_n 0, 1) := by decide +kernel
theorem dX7_runsOne_20 : decode cX7_runsOne 20 = .ok (.getfield 7, 3) := by decide +kernel
theorem dX7_runsOne_23 : decode cX7_runsOne 23 = .ok (.sipush 152, 3) := by decide +kernel
theorem dX7_runsOne_26 : decode cX7_runsOne 26 = .ok (.iconst 2, 1) := by decide +kernel
theorem dX7_runsOne_27 : decode cX7_runsOne 27 = .ok (.aload_n 0, 1) := by decide +kernel
theorem dX7_runsOne_28 : decode cX7_runsOne 28 = .ok (.getfield 7, 3) := by decide +kernel
theorem dX7_runsOne_31 : decode cX7_runsOne 31 = .ok (.iconst 3, 1) := by decide +kernel
theorem dX7_runsOne_32 : decode cX7_runsOne 32 = .ok (.iaload, 1) := by decide +kernel
theorem dX7_runsOne_33 : decode cX7_runsOne 33 = .ok (.imul, 1) := by decide +kernel
theorem dX7_runsOne_34 : decode cX7_runsOne 34 = .ok (.iadd, 1) := by decide +kernel
theorem dX7_runsOne_35 : decode cX7_runsOne 35 = .ok (.iaload, 1) := by decide +kernel
theorem dX7_runsOne_36 : decode cX7_runsOne 36 = .ok (.invokevirtual 118, 3) := by decide +kernel
theorem dX7_runsOne_39 : decode cX7_runsOne 39 = .ok (.aload_n 0, 1) := by decide +kernel
theorem dX7_runsOne_40 : decode cX7_runsOne 40 = .ok (.iload_n 1, 1) := by decide +kernel
theorem dX7_runsOne_41 : decode cX7_runsOne 41 = .ok (.invokevirtual 112, 3) := by decide +kernel
theorem dX7_runsOne_44 : decode cX7_runsOne 44 = .ok (.istore_n 2, 1) := by decide +kernel
theorem dX7_runsOne_45 : decode cX7_runsOne 45 = .ok (.aload_n 0, 1) := by decide +kernel
theorem dX7_runsOne_46 : decode cX7_runsOne 46 = .ok (.getfield 7, 3) := by decide +kernel
theorem dX7_runsOne_49 : decode cX7_runsOne 49 = .ok (.iconst 2, 1) := by decide +kernel
theorem dX7_runsOne_50 : decode cX7_runsOne 50 = .ok (.iaload, 1) := by decide +kernel
theorem dX7_runsOne_51 : decode cX7_runsOne 51 = .ok (.ifCond .le 69, 3) := by decide +kernel
theorem dX7_runsOne_54 : decode cX7_runsOne 54 = .ok (.aload_n 0, 1) := by decide +kernel
theorem dX7_runsOne_55 : decode cX7_runsOne 55 = .ok (.getfield 7, 3) := by decide +kernel
theorem dX7_runsOne_58 : decode cX7_runsOne 58 = .ok (.iconst 4, 1) := by decide +kernel
theorem dX7_runsOne_59 : decode cX7_runsOne 59 = .ok (.dup2, 1) := by decide +kernel
theorem dX7_runsOne_60 : decode cX7_runsOne 60 = .ok (.iaload, 1) := by decide +kernel
theorem dX7_runsOne_61 : decode cX7_runsOne 61 = .ok (.iconst 1, 1) := by decide +kernel
theorem dX7_runsOne_62 : decode cX7_runsOne 62 = .ok (.iadd, 1) := by decide +kernel
theorem dX7_runsOne_63 : decode cX7_runsOne 63 = .ok (.iastore, 1) := by decide +kernel
theorem dX7_runsOne_64 : decode cX7_runsOne 64 = .ok (.aload_n 0, 1) := by decide +kernel
theorem dX7_runsOne_65 : decode cX7_runsOne 65 = .ok (.getfield 7, 3) := by decide +kernel
theorem dX7_runsOne_68 : decode cX7_runsOne 68 = .ok (.iconst 4, 1) := by decide +kernel
theorem dX7_runsOne_69 : decode cX7_runsOne 69 = .ok (.iaload, 1) := by decide +kernel
theorem dX7_runsOne_70 : decode cX7_runsOne 70 = .ok (.aload_n 0, 1) := by decide +kernel
theorem dX7_runsOne_71 : decode cX7_runsOne 71 = .ok (.getfield 7, 3) := by decide +kernel
theorem dX7_runsOne_74 : decode cX7_runsOne 74 = .ok (.sipush 152, 3) := by decide +kernel
theorem dX7_runsOne_77 : decode cX7_runsOne 77 = .ok (.iconst 2, 1) := by decide +kernel
theorem dX7_runsOne_78 : decode cX7_runsOne 78 = .ok (.aload_n 0, 1) := by decide +kernel
theorem dX7_runsOne_79 : decode cX7_runsOne 79 = .ok (.getfield 7, 3) := by decide +kernel
theorem dX7_runsOne_82 : decode cX7_runsOne 82 = .ok (.iconst 3, 1) := by decide +kernel
theorem dX7_runsOne_83 : decode cX7_runsOne 83 = .ok (.iaload, 1) := by decide +kernel
theorem dX7_runsOne_84 : decode cX7_runsOne 84 = .ok (.imul, 1) := by decide +kernel
theorem dX7_runsOne_85 : decode cX7_runsOne 85 = .ok (.iadd, 1) := by decide +kernel
theorem dX7_runsOne_86 : decode cX7_runsOne 86 = .ok (.iconst 1, 1) := by decide +kernel
theorem dX7_runsOne_87 : decode cX7_runsOne 87 = .ok (.iadd, 1) := by decide +kernel
theorem dX7_runsOne_88 : decode cX7_runsOne 88 = .ok (.iaload, 1) := by decide +kernel
theorem dX7_runsOne_89 : decode cX7_runsOne 89 = .ok (.if_icmp .ne 31, 3) := by decide +kernel
theorem dX7_runsOne_92 : decode cX7_runsOne 92 = .ok (.aload_n 0, 1) := by decide +kernel
theorem dX7_runsOne_93 : decode cX7_runsOne 93 = .ok (.getfield 7, 3) := by decide +kernel
theorem dX7_runsOne_96 : decode cX7_runsOne 96 = .ok (.iconst 3, 1) := by decide +kernel
theorem dX7_runsOne_97 : decode cX7_runsOne 97 = .ok (.aload_n 0, 1) := by decide +kernel
theorem dX7_runsOne_98 : decode cX7_runsOne 98 = .ok (.getfield 7, 3) := by decide +kernel
theorem dX7_runsOne_101 : decode cX7_runsOne 101 = .ok (.iconst 3, 1) := by decide +kernel
theorem dX7_runsOne_102 : decode cX7_runsOne 102 = .ok (.iaload, 1) := by decide +kernel
theorem dX7_runsOne_103 : decode cX7_runsOne 103 = .ok (.iconst 1, 1) := by decide +kernel
theorem dX7_runsOne_104 : decode cX7_runsOne 104 = .ok (.iadd, 1) := by decide +kernel
theorem dX7_runsOne_105 : decode cX7_runsOne 105 = .ok (.aload_n 0, 1) := by decide +kernel
theorem dX7_runsOne_106 : decode cX7_runsOne 106 = .ok (.getfield 7, 3) := by decide +kernel
theorem dX7_runsOne_109 : decode cX7_runsOne 109 = .ok (.iconst 2, 1) := by decide +kernel
theorem dX7_runsOne_110 : decode cX7_runsOne 110 = .ok (.iaload, 1) := by decide +kernel
theorem dX7_runsOne_111 : decode cX7_runsOne 111 = .ok (.irem, 1) := by decide +kernel
theorem dX7_runsOne_112 : decode cX7_runsOne 112 = .ok (.iastore, 1) := by decide +kernel
theorem dX7_runsOne_113 : decode cX7_runsOne 113 = .ok (.aload_n 0, 1) := by decide +kernel
theorem dX7_runsOne_114 : decode cX7_runsOne 114 = .ok (.getfield 7, 3) := by decide +kernel
theorem dX7_runsOne_117 : decode cX7_runsOne 117 = .ok (.iconst 4, 1) := by decide +kernel
theorem dX7_runsOne_118 : decode cX7_runsOne 118 = .ok (.iconst 0, 1) := by decide +kernel
theorem dX7_runsOne_119 : decode cX7_runsOne 119 = .ok (.iastore, 1) := by decide +kernel
theorem dX7_runsOne_120 : decode cX7_runsOne 120 = .ok (.iload_n 2, 1) := by decide +kernel
theorem dX7_runsOne_121 : decode cX7_runsOne 121 = .ok (.ireturn, 1) := by decide +kernel
theorem dX7_runs_0 : decode cX7_runs 0 = .ok (.iload_n 1, 1) := by decide +kernel
theorem dX7_runs_1 : decode cX7_runs 1 = .ok (.iconst 1, 1) := by decide +kernel
theorem dX7_runs_2 : decode cX7_runs 2 = .ok (.iload_n 2, 1) := by decide +kernel
theorem dX7_runs_3 : decode cX7_runs 3 = .ok (.invokestatic 29, 3) := by decide +kernel
theorem dX7_runs_6 : decode cX7_runs 6 = .ok (.ifCond .eq 14, 3) := by decide +kernel
theorem dX7_runs_9 : decode cX7_runs 9 = .ok (.iload_n 3, 1) := by decide +kernel
theorem dX7_runs_10 : decode cX7_runs 10 = .ok (.iconst 0, 1) := by decide +kernel
theorem dX7_runs_11 : decode cX7_runs 11 = .ok (.sipush 999, 3) := by decide +kernel
theorem dX7_runs_14 : decode cX7_runs 14 = .ok (.invokestatic 29, 3) := by decide +kernel
theorem dX7_runs_17 : decode cX7_runs 17 = .ok (.ifCond .ne 6, 3) := by decide +kernel
theorem dX7_runs_20 : decode cX7_runs 20 = .ok (.ldc 37, 2) := by decide +kernel
theorem dX7_runs_22 : decode cX7_runs 22 = .ok (.ireturn, 1) := by decide +kernel
theorem dX7_runs_23 : decode cX7_runs 23 = .ok (.aload_n 0, 1) := by decide +kernel
theorem dX7_runs_24 : decode cX7_runs 24 = .ok (.getfield 7, 3) := by decide +kernel
theorem dX7_runs_27 : decode cX7_runs 27 = .ok (.iconst 5, 1) := by decide +kernel
theorem dX7_runs_28 : decode cX7_runs 28 = .ok (.iaload, 1) := by decide +kernel
theorem dX7_runs_29 : decode cX7_runs 29 = .ok (.iload_n 1, 1) := by decide +kernel
theorem dX7_runs_30 : decode cX7_runs 30 = .ok (.iadd, 1) := by decide +kernel
theorem dX7_runs_31 : decode cX7_runs 31 = .ok (.sipush 20000, 3) := by decide +kernel
theorem dX7_runs_34 : decode cX7_runs 34 = .ok (.if_icmp .le 6, 3) := by decide +kernel
theorem dX7_runs_37 : decode cX7_runs 37 = .ok (.ldc 46, 2) := by decide +kernel
theorem dX7_runs_39 : decode cX7_runs 39 = .ok (.ireturn, 1) := by decide +kernel
theorem dX7_runs_40 : decode cX7_runs 40 = .ok (.iconst 0, 1) := by decide +kernel
theorem dX7_runs_41 : decode cX7_runs 41 = .ok (.istore 4, 2) := by decide +kernel
theorem dX7_runs_43 : decode cX7_runs 43 = .ok (.iconst 0, 1) := by decide +kernel
theorem dX7_runs_44 : decode cX7_runs 44 = .ok (.istore 5, 2) := by decide +kernel
theorem dX7_runs_46 : decode cX7_runs 46 = .ok (.iload 5, 2) := by decide +kernel
theorem dX7_runs_48 : decode cX7_runs 48 = .ok (.iload_n 1, 1) := by decide +kernel
theorem dX7_runs_49 : decode cX7_runs 49 = .ok (.if_icmp .ge 19, 3) := by decide +kernel
theorem dX7_runs_52 : decode cX7_runs 52 = .ok (.iload 4, 2) := by decide +kernel
theorem dX7_runs_54 : decode cX7_runs 54 = .ok (.aload_n 0, 1) := by decide +kernel
theorem dX7_runs_55 : decode cX7_runs 55 = .ok (.iload_n 3, 1) := by decide +kernel
theorem dX7_runs_56 : decode cX7_runs 56 = .ok (.invokevirtual 122, 3) := by decide +kernel
theorem dX7_runs_59 : decode cX7_runs 59 = .ok (.iadd, 1) := by decide +kernel
theorem dX7_runs_60 : decode cX7_runs 60 = .ok (.istore 4, 2) := by decide +kernel
theorem dX7_runs_62 : decode cX7_runs 62 = .ok (.iinc 5 1, 3) := by decide +kernel
theorem dX7_runs_65 : decode cX7_runs 65 = .ok (.goto (-19), 3) := by decide +kernel
theorem dX7_runs_68 : decode cX7_runs 68 = .ok (.iload 4, 2) := by decide +kernel
theorem dX7_runs_70 : decode cX7_runs 70 = .ok (.ireturn, 1) := by decide +kernel
theorem dX7_run_0 : decode cX7_run 0 = .ok (.aload_n 0, 1) := by decide +kernel
theorem dX7_run_1 : decode cX7_run 1 = .ok (.invokevirtual 47, 3) := by decide +kernel
theorem dX7_run_4 : decode cX7_run 4 = .ok (.aload_n 0, 1) := by decide +kernel
theorem dX7_run_5 : decode cX7_run 5 = .ok (.aload_n 0, 1) := by decide +kernel
theorem dX7_run_6 : decode cX7_run 6 = .ok (.iload_n 1, 1) := by decide +kernel
theorem dX7_run_7 : decode cX7_run 7 = .ok (.bipush 100, 2) := by decide +kernel
theorem dX7_run_9 : decode cX7_run 9 = .ok (.iload_n 2, 1) := by decide +kernel
theorem dX7_run_10 : decode cX7_run 10 = .ok (.invokevirtual 125, 3) := by decide +kernel
theorem dX7_run_13 : decode cX7_run 13 = .ok (.invokevirtual 50, 3) := by decide +kernel
theorem dX7_run_16 : decode cX7_run 16 = .ok (.ireturn, 1) := by decide +kernel
theorem dX7_below_0 : decode cX7_below 0 = .ok (.iconst 0, 1) := by decide +kernel
theorem dX7_below_1 : decode cX7_below 1 = .ok (.istore_n 2, 1) := by decide +kernel
theorem dX7_below_2 : decode cX7_below 2 = .ok (.iload_n 1, 1) := by decide +kernel
theorem dX7_below_3 : decode cX7_below 3 = .ok (.iconst 1, 1) := by decide +kernel
theorem dX7_below_4 : decode cX7_below 4 = .ok (.iadd, 1) := by decide +kernel
theorem dX7_below_5 : decode cX7_below 5 = .ok (.istore_n 3, 1) := by decide +kernel
theorem dX7_below_6 : decode cX7_below 6 = .ok (.iload_n 3, 1) := by decide +kernel
theorem dX7_below_7 : decode cX7_below 7 = .ok (.aload_n 0, 1) := by decide +kernel
theorem dX7_below_8 : decode cX7_below 8 = .ok (.getfield 7, 3) := by decide +kernel
theorem dX7_below_11 : decode cX7_below 11 = .ok (.iconst 0, 1) := by decide +kernel
theorem dX7_below_12 : decode cX7_below 12 = .ok (.iaload, 1) := by decide +kernel
theorem dX7_below_13 : decode cX7_below 13 = .ok (.if_icmp .ge 29, 3) := by decide +kernel
theorem dX7_below_16 : decode cX7_below 16 = .ok (.iload_n 2, 1) := by decide +kernel
theorem dX7_below_17 : decode cX7_below 17 = .ok (.aload_n 0, 1) := by decide +kernel
theorem dX7_below_18 : decode cX7_below 18 = .ok (.iload_n 3, 1) := by decide +kernel
theorem dX7_below_19 : decode cX7_below 19 = .ok (.iload_n 1, 1) := by decide +kernel
theorem dX7_below_20 : decode cX7_below 20 = .ok (.iconst 0, 1) := by decide +kernel
theorem dX7_below_21 : decode cX7_below 21 = .ok (.invokevirtual 89, 3) := by decide +kernel
theorem dX7_below_24 : decode cX7_below 24 = .ok (.ifCond .eq 9, 3) := by decide +kernel
theorem dX7_below_27 : decode cX7_below 27 = .ok (.iconst 1, 1) := by decide +kernel
theorem dX7_below_28 : decode cX7_below 28 = .ok (.iload_n 3, 1) := by decide +kernel
theorem dX7_below_29 : decode cX7_below 29 = .ok (.ishl, 1) := by decide +kernel
theorem dX7_below_30 : decode cX7_below 30 = .ok (.goto 4, 3) := by decide +kernel
theorem dX7_below_33 : decode cX7_below 33 = .ok (.iconst 0, 1) := by decide +kernel
theorem dX7_below_34 : decode cX7_below 34 = .ok (.ior, 1) := by decide +kernel
theorem dX7_below_35 : decode cX7_below 35 = .ok (.istore_n 2, 1) := by decide +kernel
theorem dX7_below_36 : decode cX7_below 36 = .ok (.iinc 3 1, 3) := by decide +kernel
theorem dX7_below_39 : decode cX7_below 39 = .ok (.goto (-33), 3) := by decide +kernel
theorem dX7_below_42 : decode cX7_below 42 = .ok (.iload_n 2, 1) := by decide +kernel
theorem dX7_below_43 : decode cX7_below 43 = .ok (.ireturn, 1) := by decide +kernel
theorem dX7_canalOf_0 : decode cX7_canalOf 0 = .ok (.aload_n 0, 1) := by decide +kernel
theorem dX7_canalOf_1 : decode cX7_canalOf 1 = .ok (.iload_n 1, 1) := by decide +kernel
theorem dX7_canalOf_2 : decode cX7_canalOf 2 = .ok (.invokevirtual 42, 3) := by decide +kernel
theorem dX7_canalOf_5 : decode cX7_canalOf 5 = .ok (.ifCond .eq 13, 3) := by decide +kernel
theorem dX7_canalOf_8 : decode cX7_canalOf 8 = .ok (.iload_n 2, 1) := by decide +kernel
theorem dX7_canalOf_9 : decode cX7_canalOf 9 = .ok (.iconst 0, 1) := by decide +kernel
theorem dX7_canalOf_10 : decode cX7_canalOf 10 = .ok (.bipush 9, 2) := by decide +kernel
theorem dX7_canalOf_12 : decode cX7_canalOf 12 = .ok (.invokestatic 29, 3) := by decide +kernel
theorem dX7_canalOf_15 : decode cX7_canalOf 15 = .ok (.ifCond .ne 6, 3) := by decide +kernel
theorem dX7_canalOf_18 : decode cX7_canalOf 18 = .ok (.ldc 37, 2) := by decide +kernel
theorem dX7_canalOf_20 : decode cX7_canalOf 20 = .ok (.ireturn, 1) := by decide +kernel
theorem dX7_canalOf_21 : decode cX7_canalOf 21 = .ok (.iload_n 1, 1) := by decide +kernel
theorem dX7_canalOf_22 : decode cX7_canalOf 22 = .ok (.ifCond .le 7, 3) := by decide +kernel
theorem dX7_canalOf_25 : decode cX7_canalOf 25 = .ok (.iconst 1, 1) := by decide +kernel
theorem dX7_canalOf_26 : decode cX7_canalOf 26 = .ok (.goto 4, 3) := by decide +kernel
theorem dX7_canalOf_29 : decode cX7_canalOf 29 = .ok (.iconst 0, 1) := by decide +kernel
theorem dX7_canalOf_30 : decode cX7_canalOf 30 = .ok (.istore_n 3, 1) := by decide +kernel
theorem dX7_canalOf_31 : decode cX7_canalOf 31 = .ok (.iload_n 2, 1) := by decide +kernel
theorem dX7_canalOf_32 : decode cX7_canalOf 32 = .ok (.tableswitch 112 0 9 #[56, 56, 112, 112, 56, 72, 97, 103, 103, 103], 56) := by decide +kernel
theorem dX7_canalOf_88 : decode cX7_canalOf 88 = .ok (.iload_n 3, 1) := by decide +kernel
theorem dX7_canalOf_89 : decode cX7_canalOf 89 = .ok (.ifCond .eq 12, 3) := by decide +kernel
theorem dX7_canalOf_92 : decode cX7_canalOf 92 = .ok (.aload_n 0, 1) := by decide +kernel
theorem dX7_canalOf_93 : decode cX7_canalOf 93 = .ok (.iload_n 1, 1) := by decide +kernel
theorem dX7_canalOf_94 : decode cX7_canalOf 94 = .ok (.iload_n 2, 1) := by decide +kernel
theorem dX7_canalOf_95 : decode cX7_canalOf 95 = .ok (.invokevirtual 54, 3) := by decide +kernel
theorem dX7_canalOf_98 : decode cX7_canalOf 98 = .ok (.goto 5, 3) := by decide +kernel
theorem dX7_canalOf_101 : decode cX7_canalOf 101 = .ok (.ldc 129, 2) := by decide +kernel
theorem dX7_canalOf_103 : decode cX7_canalOf 103 = .ok (.ireturn, 1) := by decide +kernel
theorem dX7_canalOf_104 : decode cX7_canalOf 104 = .ok (.iload_n 3, 1) := by decide +kernel
theorem dX7_canalOf_105 : decode cX7_canalOf 105 = .ok (.ifCond .eq 21, 3) := by decide +kernel
theorem dX7_canalOf_108 : decode cX7_canalOf 108 = .ok (.aload_n 0, 1) := by decide +kernel
theorem dX7_canalOf_109 : decode cX7_canalOf 109 = .ok (.iload_n 1, 1) := by decide +kernel
theorem dX7_canalOf_110 : decode cX7_canalOf 110 = .ok (.iconst 5, 1) := by decide +kernel
theorem dX7_canalOf_111 : decode cX7_canalOf 111 = .ok (.invokevirtual 54, 3) := by decide +kernel
theorem dX7_canalOf_114 : decode cX7_canalOf 114 = .ok (.ifCond .lt 12, 3) := by decide +kernel
theorem dX7_canalOf_117 : decode cX7_canalOf 117 = .ok (.aload_n 0, 1) := by decide +kernel
theorem dX7_canalOf_118 : decode cX7_canalOf 118 = .ok (.iload_n 1, 1) := by decide +kernel
theorem dX7_canalOf_119 : decode cX7_canalOf 119 = .ok (.iconst 5, 1) := by decide +kernel
theorem dX7_canalOf_120 : decode cX7_canalOf 120 = .ok (.invokevirtual 54, 3) := by decide +kernel
theorem dX7_canalOf_123 : decode cX7_canalOf 123 = .ok (.goto 5, 3) := by decide +kernel
theorem dX7_canalOf_126 : decode cX7_canalOf 126 = .ok (.ldc 129, 2) := by decide +kernel
theorem dX7_canalOf_128 : decode cX7_canalOf 128 = .ok (.ireturn, 1) := by decide +kernel
theorem dX7_canalOf_129 : decode cX7_canalOf 129 = .ok (.aload_n 0, 1) := by decide +kernel
theorem dX7_canalOf_130 : decode cX7_canalOf 130 = .ok (.iload_n 1, 1) := by decide +kernel
theorem dX7_canalOf_131 : decode cX7_canalOf 131 = .ok (.invokevirtual 130, 3) := by decide +kernel
theorem dX7_canalOf_134 : decode cX7_canalOf 134 = .ok (.ireturn, 1) := by decide +kernel
theorem dX7_canalOf_135 : decode cX7_canalOf 135 = .ok (.aload_n 0, 1) := by decide +kernel
theorem dX7_canalOf_136 : decode cX7_canalOf 136 = .ok (.iload_n 1, 1) := by decide +kernel
theorem dX7_canalOf_137 : decode cX7_canalOf 137 = .ok (.iload_n 2, 1) := by decide +kernel
theorem dX7_canalOf_138 : decode cX7_canalOf 138 = .ok (.iconst 1, 1) := by decide +kernel
theorem dX7_canalOf_139 : decode cX7_canalOf 139 = .ok (.isub, 1) := by decide +kernel
theorem dX7_canalOf_140 : decode cX7_canalOf 140 = .ok (.invokevirtual 54, 3) := by decide +kernel
theorem dX7_canalOf_143 : decode cX7_canalOf 143 = .ok (.ireturn, 1) := by decide +kernel
theorem dX7_canalOf_144 : decode cX7_canalOf 144 = .ok (.aload_n 0, 1) := by decide +kernel
theorem dX7_canalOf_145 : decode cX7_canalOf 145 = .ok (.iload_n 1, 1) := by decide +kernel
theorem dX7_canalOf_146 : decode cX7_canalOf 146 = .ok (.iload_n 2, 1) := by decide +kernel
theorem dX7_canalOf_147 : decode cX7_canalOf 147 = .ok (.invokevirtual 54, 3) := by decide +kernel
theorem dX7_canalOf_150 : decode cX7_canalOf 150 = .ok (.ireturn, 1) := by decide +kernel
theorem dX7_fieldOf_0 : decode cX7_fieldOf 0 = .ok (.aload_n 0, 1) := by decide +kernel
theorem dX7_fieldOf_1 : decode cX7_fieldOf 1 = .ok (.iload_n 1, 1) := by decide +kernel
theorem dX7_fieldOf_2 : decode cX7_fieldOf 2 = .ok (.invokevirtual 71, 3) := by decide +kernel
theorem dX7_fieldOf_5 : decode cX7_fieldOf 5 = .ok (.ifCond .eq 13, 3) := by decide +kernel
theorem dX7_fieldOf_8 : decode cX7_fieldOf 8 = .ok (.iload_n 2, 1) := by decide +kernel
theorem dX7_fieldOf_9 : decode cX7_fieldOf 9 = .ok (.iconst 0, 1) := by decide +kernel
theorem dX7_fieldOf_10 : decode cX7_fieldOf 10 = .ok (.bipush 7, 2) := by decide +kernel
theorem dX7_fieldOf_12 : decode cX7_fieldOf 12 = .ok (.invokestatic 29, 3) := by decide +kernel
theorem dX7_fieldOf_15 : decode cX7_fieldOf 15 = .ok (.ifCond .ne 6, 3) := by decide +kernel
theorem dX7_fieldOf_18 : decode cX7_fieldOf 18 = .ok (.ldc 37, 2) := by decide +kernel
theorem dX7_fieldOf_20 : decode cX7_fieldOf 20 = .ok (.ireturn, 1) := by decide +kernel
theorem dX7_fieldOf_21 : decode cX7_fieldOf 21 = .ok (.iload_n 2, 1) := by decide +kernel
theorem dX7_fieldOf_22 : decode cX7_fieldOf 22 = .ok (.lookupswitch 61 #[(6, 26), (7, 40)], 26) := by decide +kernel
theorem dX7_fieldOf_48 : decode cX7_fieldOf 48 = .ok (.aload_n 0, 1) := by decide +kernel
theorem dX7_fieldOf_49 : decode cX7_fieldOf 49 = .ok (.iload_n 1, 1) := by decide +kernel
theorem dX7_fieldOf_50 : decode cX7_fieldOf 50 = .ok (.invokevirtual 93, 3) := by decide +kernel
theorem dX7_fieldOf_53 : decode cX7_fieldOf 53 = .ok (.ifCond .eq 7, 3) := by decide +kernel
theorem dX7_fieldOf_56 : decode cX7_fieldOf 56 = .ok (.iconst 1, 1) := by decide +kernel
theorem dX7_fieldOf_57 : decode cX7_fieldOf 57 = .ok (.goto 4, 3) := by decide +kernel
theorem dX7_fieldOf_60 : decode cX7_fieldOf 60 = .ok (.iconst 0, 1) := by decide +kernel
theorem dX7_fieldOf_61 : decode cX7_fieldOf 61 = .ok (.ireturn, 1) := by decide +kernel
theorem dX7_fieldOf_62 : decode cX7_fieldOf 62 = .ok (.aload_n 0, 1) := by decide +kernel
theorem dX7_fieldOf_63 : decode cX7_fieldOf 63 = .ok (.iload_n 1, 1) := by decide +kernel
theorem dX7_fieldOf_64 : decode cX7_fieldOf 64 = .ok (.invokevirtual 74, 3) := by decide +kernel
theorem dX7_fieldOf_67 : decode cX7_fieldOf 67 = .ok (.ifCond .eq 8, 3) := by decide +kernel
theorem dX7_fieldOf_70 : decode cX7_fieldOf 70 = .ok (.ldc 129, 2) := by decide +kernel
theorem dX7_fieldOf_72 : decode cX7_fieldOf 72 = .ok (.goto 10, 3) := by decide +kernel
theorem dX7_fieldOf_75 : decode cX7_fieldOf 75 = .ok (.aload_n 0, 1) := by decide +kernel
theorem dX7_fieldOf_76 : decode cX7_fieldOf 76 = .ok (.iload_n 1, 1) := by decide +kernel
theorem dX7_fieldOf_77 : decode cX7_fieldOf 77 = .ok (.bipush 6, 2) := by decide +kernel
theorem dX7_fieldOf_79 : decode cX7_fieldOf 79 = .ok (.invokevirtual 33, 3) := by decide +kernel
theorem dX7_fieldOf_82 : decode cX7_fieldOf 82 = .ok (.ireturn, 1) := by decide +kernel
theorem dX7_fieldOf_83 : decode cX7_fieldOf 83 = .ok (.aload_n 0, 1) := by decide +kernel
theorem dX7_fieldOf_84 : decode cX7_fieldOf 84 = .ok (.iload_n 1, 1) := by decide +kernel
theorem dX7_fieldOf_85 : decode cX7_fieldOf 85 = .ok (.iload_n 2, 1) := by decide +kernel
theorem dX7_fieldOf_86 : decode cX7_fieldOf 86 = .ok (.invokevirtual 33, 3) := by decide +kernel
theorem dX7_fieldOf_89 : decode cX7_fieldOf 89 = .ok (.ireturn, 1) := by decide +kernel
theorem dX7_turnOf_0 : decode cX7_turnOf 0 = .ok (.iload_n 1, 1) := by decide +kernel
theorem dX7_turnOf_1 : decode cX7_turnOf 1 = .ok (.iconst 0, 1) := by decide +kernel
theorem dX7_turnOf_2 : decode cX7_turnOf 2 = .ok (.aload_n 0, 1) := by decide +kernel
theorem dX7_turnOf_3 : decode cX7_turnOf 3 = .ok (.getfield 7, 3) := by decide +kernel
theorem dX7_turnOf_6 : decode cX7_turnOf 6 = .ok (.iconst 2, 1) := by decide +kernel
theorem dX7_turnOf_7 : decode cX7_turnOf 7 = .ok (.iaload, 1) := by decide +kernel
theorem dX7_turnOf_8 : decode cX7_turnOf 8 = .ok (.iconst 1, 1) := by decide +kernel
theorem dX7_turnOf_9 : decode cX7_turnOf 9 = .ok (.isub, 1) := by decide +kernel
theorem dX7_turnOf_10 : decode cX7_turnOf 10 = .ok (.invokestatic 29, 3) := by decide +kernel
theorem dX7_turnOf_13 : decode cX7_turnOf 13 = .ok (.ifCond .eq 29, 3) := by decide +kernel
theorem dX7_turnOf_16 : decode cX7_turnOf 16 = .ok (.iload_n 2, 1) := by decide +kernel
theorem dX7_turnOf_17 : decode cX7_turnOf 17 = .ok (.iconst 0, 1) := by decide +kernel
theorem dX7_turnOf_18 : decode cX7_turnOf 18 = .ok (.iconst 1, 1) := by decide +kernel
theorem dX7_turnOf_19 : decode cX7_turnOf 19 = .ok (.invokestatic 29, 3) := by decide +kernel
theorem dX7_turnOf_22 : decode cX7_turnOf 22 = .ok (.ifCond .eq 20, 3) := by decide +kernel
theorem dX7_turnOf_25 : decode cX7_turnOf 25 = .ok (.aload_n 0, 1) := by decide +kernel
theorem dX7_turnOf_26 : decode cX7_turnOf 26 = .ok (.getfield 7, 3) := by decide +kernel
theorem dX7_turnOf_29 : decode cX7_turnOf 29 = .ok (.sipush 152, 3) := by decide +kernel
theorem dX7_turnOf_32 : decode cX7_turnOf 32 = .ok (.iconst 2, 1) := by decide +kernel
theorem dX7_turnOf_33 : decode cX7_turnOf 33 = .ok (.iload_n 1, 1) := by decide +kernel
theorem dX7_turnOf_34 : decode cX7_turnOf 34 = .ok (.imul, 1) := by decide +kernel
theorem dX7_turnOf_35 : decode cX7_turnOf 35 = .ok (.iadd, 1) := by decide +kernel
theorem dX7_turnOf_36 : decode cX7_turnOf 36 = .ok (.iload_n 2, 1) := by decide +kernel
theorem dX7_turnOf_37 : decode cX7_turnOf 37 = .ok (.iadd, 1) := by decide +kernel
theorem dX7_turnOf_38 : decode cX7_turnOf 38 = .ok (.iaload, 1) := by decide +kernel
theorem dX7_turnOf_39 : decode cX7_turnOf 39 = .ok (.goto 5, 3) := by decide +kernel
theorem dX7_turnOf_42 : decode cX7_turnOf 42 = .ok (.ldc 37, 2) := by decide +kernel
theorem dX7_turnOf_44 : decode cX7_turnOf 44 = .ok (.ireturn, 1) := by decide +kernel
theorem dX7_share_0 : decode cX7_share 0 = .ok (.iload_n 1, 1) := by decide +kernel
theorem dX7_share_1 : decode cX7_share 1 = .ok (.iconst 0, 1) := by decide +kernel
theorem dX7_share_2 : decode cX7_share 2 = .ok (.iconst 2, 1) := by decide +kernel
theorem dX7_share_3 : decode cX7_share 3 = .ok (.invokestatic 29, 3) := by decide +kernel
theorem dX7_share_6 : decode cX7_share 6 = .ok (.ifCond .ne 6, 3) := by decide +kernel
theorem dX7_share_9 : decode cX7_share 9 = .ok (.ldc 37, 2) := by decide +kernel
theorem dX7_share_11 : decode cX7_share 11 = .ok (.ireturn, 1) := by decide +kernel
theorem dX7_share_12 : decode cX7_share 12 = .ok (.aload_n 0, 1) := by decide +kernel
theorem dX7_share_13 : decode cX7_share 13 = .ok (.getfield 7, 3) := by decide +kernel
theorem dX7_share_16 : decode cX7_share 16 = .ok (.bipush 6, 2) := by decide +kernel
theorem dX7_share_18 : decode cX7_share 18 = .ok (.iaload, 1) := by decide +kernel
theorem dX7_share_19 : decode cX7_share 19 = .ok (.ifCond .ne 8, 3) := by decide +kernel
theorem dX7_share_22 : decode cX7_share 22 = .ok (.ldc 129, 2) := by decide +kernel
theorem dX7_share_24 : decode cX7_share 24 = .ok (.goto 25, 3) := by decide +kernel
theorem dX7_share_27 : decode cX7_share 27 = .ok (.aload_n 0, 1) := by decide +kernel
theorem dX7_share_28 : decode cX7_share 28 = .ok (.getfield 7, 3) := by decide +kernel
theorem dX7_share_31 : decode cX7_share 31 = .ok (.bipush 7, 2) := by decide +kernel
theorem dX7_share_33 : decode cX7_share 33 = .ok (.iload_n 1, 1) := by decide +kernel
theorem dX7_share_34 : decode cX7_share 34 = .ok (.iadd, 1) := by decide +kernel
theorem dX7_share_35 : decode cX7_share 35 = .ok (.iaload, 1) := by decide +kernel
theorem dX7_share_36 : decode cX7_share 36 = .ok (.i2f, 1) := by decide +kernel
theorem dX7_share_37 : decode cX7_share 37 = .ok (.aload_n 0, 1) := by decide +kernel
theorem dX7_share_38 : decode cX7_share 38 = .ok (.getfield 7, 3) := by decide +kernel
theorem dX7_share_41 : decode cX7_share 41 = .ok (.bipush 6, 2) := by decide +kernel
theorem dX7_share_43 : decode cX7_share 43 = .ok (.iaload, 1) := by decide +kernel
theorem dX7_share_44 : decode cX7_share 44 = .ok (.i2f, 1) := by decide +kernel
theorem dX7_share_45 : decode cX7_share 45 = .ok (.fdiv, 1) := by decide +kernel
theorem dX7_share_46 : decode cX7_share 46 = .ok (.invokestatic 133, 3) := by decide +kernel
theorem dX7_share_49 : decode cX7_share 49 = .ok (.ireturn, 1) := by decide +kernel
theorem dX7_would_0 : decode cX7_would 0 = .ok (.aload_n 0, 1) := by decide +kernel
theorem dX7_would_1 : decode cX7_would 1 = .ok (.iload_n 1, 1) := by decide +kernel
theorem dX7_would_2 : decode cX7_would 2 = .ok (.invokevirtual 86, 3) := by decide +kernel
theorem dX7_would_5 : decode cX7_would 5 = .ok (.ifCond .eq 40, 3) := by decide +kernel
theorem dX7_would_8 : decode cX7_would 8 = .ok (.iload_n 2, 1) := by decide +kernel
theorem dX7_would_9 : decode cX7_would 9 = .ok (.iconst 0, 1) := by decide +kernel
theorem dX7_would_10 : decode cX7_would 10 = .ok (.sipush 999, 3) := by decide +kernel
theorem dX7_would_13 : decode cX7_would 13 = .ok (.invokestatic 29, 3) := by decide +kernel
theorem dX7_would_16 : decode cX7_would 16 = .ok (.ifCond .eq 29, 3) := by decide +kernel
theorem dX7_would_19 : decode cX7_would 19 = .ok (.iload_n 3, 1) := by decide +kernel
theorem dX7_would_20 : decode cX7_would 20 = .ok (.iconst 0, 1) := by decide +kernel
theorem dX7_would_21 : decode cX7_would 21 = .ok (.iconst 2, 1) := by decide +kernel
theorem dX7_would_22 : decode cX7_would 22 = .ok (.invokestatic 29, 3) := by decide +kernel
theorem dX7_would_25 : decode cX7_would 25 = .ok (.ifCond .ne 23, 3) := by decide +kernel
theorem dX7_would_28 : decode cX7_would 28 = .ok (.iload_n 3, 1) := by decide +kernel
theorem dX7_would_29 : decode cX7_would 29 = .ok (.bipush 10, 2) := by decide +kernel
theorem dX7_would_31 : decode cX7_would 31 = .ok (.if_icmp .lt 14, 3) := by decide +kernel
theorem dX7_would_34 : decode cX7_would 34 = .ok (.aload_n 0, 1) := by decide +kernel
theorem dX7_would_35 : decode cX7_would 35 = .ok (.iload_n 3, 1) := by decide +kernel
theorem dX7_would_36 : decode cX7_would 36 = .ok (.bipush 10, 2) := by decide +kernel
theorem dX7_would_38 : decode cX7_would 38 = .ok (.isub, 1) := by decide +kernel
theorem dX7_would_39 : decode cX7_would 39 = .ok (.invokevirtual 71, 3) := by decide +kernel
theorem dX7_would_42 : decode cX7_would 42 = .ok (.ifCond .ne 6, 3) := by decide +kernel
theorem dX7_would_45 : decode cX7_would 45 = .ok (.ldc 37, 2) := by decide +kernel
theorem dX7_would_47 : decode cX7_would 47 = .ok (.ireturn, 1) := by decide +kernel
theorem dX7_would_48 : decode cX7_would 48 = .ok (.aload_n 0, 1) := by decide +kernel
theorem dX7_would_49 : decode cX7_would 49 = .ok (.invokevirtual 139, 3) := by decide +kernel
theorem dX7_would_52 : decode cX7_would 52 = .ok (.aload_n 0, 1) := by decide +kernel
theorem dX7_would_53 : decode cX7_would 53 = .ok (.iload_n 1, 1) := by decide +kernel
theorem dX7_would_54 : decode cX7_would 54 = .ok (.invokevirtual 118, 3) := by decide +kernel
theorem dX7_would_57 : decode cX7_would 57 = .ok (.aload_n 0, 1) := by decide +kernel
theorem dX7_would_58 : decode cX7_would 58 = .ok (.iload_n 2, 1) := by decide +kernel
theorem dX7_would_59 : decode cX7_would 59 = .ok (.invokevirtual 112, 3) := by decide +kernel
theorem dX7_would_62 : decode cX7_would 62 = .ok (.pop, 1) := by decide +kernel
theorem dX7_would_63 : decode cX7_would 63 = .ok (.iload_n 3, 1) := by decide +kernel
theorem dX7_would_64 : decode cX7_would 64 = .ok (.bipush 10, 2) := by decide +kernel
theorem dX7_would_66 : decode cX7_would 66 = .ok (.if_icmp .ge 10, 3) := by decide +kernel
theorem dX7_would_69 : decode cX7_would 69 = .ok (.bipush 7, 2) := by decide +kernel
theorem dX7_would_71 : decode cX7_would 71 = .ok (.iload_n 3, 1) := by decide +kernel
theorem dX7_would_72 : decode cX7_would 72 = .ok (.iadd, 1) := by decide +kernel
theorem dX7_would_73 : decode cX7_would 73 = .ok (.goto 15, 3) := by decide +kernel
theorem dX7_would_76 : decode cX7_would 76 = .ok (.bipush 82, 2) := by decide +kernel
theorem dX7_would_78 : decode cX7_would 78 = .ok (.bipush 7, 2) := by decide +kernel
theorem dX7_would_80 : decode cX7_would 80 = .ok (.iload_n 3, 1) := by decide +kernel
theorem dX7_would_81 : decode cX7_would 81 = .ok (.bipush 10, 2) := by decide +kernel
theorem dX7_would_83 : decode cX7_would 83 = .ok (.isub, 1) := by decide +kernel
theorem dX7_would_84 : decode cX7_would 84 = .ok (.imul, 1) := by decide +kernel
theorem dX7_would_85 : decode cX7_would 85 = .ok (.iadd, 1) := by decide +kernel
theorem dX7_would_86 : decode cX7_would 86 = .ok (.iconst 4, 1) := by decide +kernel
theorem dX7_would_87 : decode cX7_would 87 = .ok (.iadd, 1) := by decide +kernel
theorem dX7_would_88 : decode cX7_would 88 = .ok (.istore 4, 2) := by decide +kernel
theorem dX7_would_90 : decode cX7_would 90 = .ok (.aload_n 0, 1) := by decide +kernel
theorem dX7_would_91 : decode cX7_would 91 = .ok (.getfield 7, 3) := by decide +kernel
theorem dX7_would_94 : decode cX7_would 94 = .ok (.iload 4, 2) := by decide +kernel
theorem dX7_would_96 : decode cX7_would 96 = .ok (.iaload, 1) := by decide +kernel
theorem dX7_would_97 : decode cX7_would 97 = .ok (.aload_n 0, 1) := by decide +kernel
theorem dX7_would_98 : decode cX7_would 98 = .ok (.getfield 19, 3) := by decide +kernel
theorem dX7_would_101 : decode cX7_would 101 = .ok (.iload 4, 2) := by decide +kernel
theorem dX7_would_103 : decode cX7_would 103 = .ok (.iaload, 1) := by decide +kernel
theorem dX7_would_104 : decode cX7_would 104 = .ok (.isub, 1) := by decide +kernel
theorem dX7_would_105 : decode cX7_would 105 = .ok (.istore 5, 2) := by decide +kernel
theorem dX7_would_107 : decode cX7_would 107 = .ok (.aload_n 0, 1) := by decide +kernel
theorem dX7_would_108 : decode cX7_would 108 = .ok (.invokevirtual 142, 3) := by decide +kernel
theorem dX7_would_111 : decode cX7_would 111 = .ok (.iload 5, 2) := by decide +kernel
theorem dX7_would_113 : decode cX7_would 113 = .ok (.ireturn, 1) := by decide +kernel
theorem dX7_haveGot_0 : decode cX7_haveGot 0 = .ok (.iconst 1, 1) := by decide +kernel
theorem dX7_haveGot_1 : decode cX7_haveGot 1 = .ok (.istore_n 2, 1) := by decide +kernel
theorem dX7_haveGot_2 : decode cX7_haveGot 2 = .ok (.iconst 0, 1) := by decide +kernel
theorem dX7_haveGot_3 : decode cX7_haveGot 3 = .ok (.istore_n 3, 1) := by decide +kernel
theorem dX7_haveGot_4 : decode cX7_haveGot 4 = .ok (.iload_n 3, 1) := by decide +kernel
theorem dX7_haveGot_5 : decode cX7_haveGot 5 = .ok (.aload_n 0, 1) := by decide +kernel
theorem dX7_haveGot_6 : decode cX7_haveGot 6 = .ok (.getfield 7, 3) := by decide +kernel
theorem dX7_haveGot_9 : decode cX7_haveGot 9 = .ok (.iconst 1, 1) := by decide +kernel
theorem dX7_haveGot_10 : decode cX7_haveGot 10 = .ok (.iaload, 1) := by decide +kernel
theorem dX7_haveGot_11 : decode cX7_haveGot 11 = .ok (.if_icmp .ge 35, 3) := by decide +kernel
theorem dX7_haveGot_14 : decode cX7_haveGot 14 = .ok (.iload_n 2, 1) := by decide +kernel
theorem dX7_haveGot_15 : decode cX7_haveGot 15 = .ok (.ifCond .eq 23, 3) := by decide +kernel
theorem dX7_haveGot_18 : decode cX7_haveGot 18 = .ok (.iload_n 1, 1) := by decide +kernel
theorem dX7_haveGot_19 : decode cX7_haveGot 19 = .ok (.iload_n 3, 1) := by decide +kernel
theorem dX7_haveGot_20 : decode cX7_haveGot 20 = .ok (.ishr, 1) := by decide +kernel
theorem dX7_haveGot_21 : decode cX7_haveGot 21 = .ok (.iconst 1, 1) := by decide +kernel
theorem dX7_haveGot_22 : decode cX7_haveGot 22 = .ok (.iand, 1) := by decide +kernel
theorem dX7_haveGot_23 : decode cX7_haveGot 23 = .ok (.ifCond .eq 11, 3) := by decide +kernel
theorem dX7_haveGot_26 : decode cX7_haveGot 26 = .ok (.aload_n 0, 1) := by decide +kernel
theorem dX7_haveGot_27 : decode cX7_haveGot 27 = .ok (.iload_n 3, 1) := by decide +kernel
theorem dX7_haveGot_28 : decode cX7_haveGot 28 = .ok (.invokevirtual 74, 3) := by decide +kernel
theorem dX7_haveGot_31 : decode cX7_haveGot 31 = .ok (.ifCond .ne 7, 3) := by decide +kernel
theorem dX7_haveGot_34 : decode cX7_haveGot 34 = .ok (.iconst 1, 1) := by decide +kernel
theorem dX7_haveGot_35 : decode cX7_haveGot 35 = .ok (.goto 4, 3) := by decide +kernel
theorem dX7_haveGot_38 : decode cX7_haveGot 38 = .ok (.iconst 0, 1) := by decide +kernel
theorem dX7_haveGot_39 : decode cX7_haveGot 39 = .ok (.istore_n 2, 1) := by decide +kernel
theorem dX7_haveGot_40 : decode cX7_haveGot 40 = .ok (.iinc 3 1, 3) := by decide +kernel
theorem dX7_haveGot_43 : decode cX7_haveGot 43 = .ok (.goto (-39), 3) := by decide +kernel
theorem dX7_haveGot_46 : decode cX7_haveGot 46 = .ok (.iload_n 2, 1) := by decide +kernel
theorem dX7_haveGot_47 : decode cX7_haveGot 47 = .ok (.ireturn, 1) := by decide +kernel
theorem dX7_leastGates_0 : decode cX7_leastGates 0 = .ok (.iload_n 1, 1) := by decide +kernel
theorem dX7_leastGates_1 : decode cX7_leastGates 1 = .ok (.iconst 0, 1) := by decide +kernel
theorem dX7_leastGates_2 : decode cX7_leastGates 2 = .ok (.iconst 1, 1) := by decide +kernel
theorem dX7_leastGates_3 : decode cX7_leastGates 3 = .ok (.aload_n 0, 1) := by decide +kernel
theorem dX7_leastGates_4 : decode cX7_leastGates 4 = .ok (.getfield 7, 3) := by decide +kernel
theorem dX7_leastGates_7 : decode cX7_leastGates 7 = .ok (.iconst 1, 1) := by decide +kernel
theorem dX7_leastGates_8 : decode cX7_leastGates 8 = .ok (.iaload, 1) := by decide +kernel
theorem dX7_leastGates_9 : decode cX7_leastGates 9 = .ok (.ishl, 1) := by decide +kernel
theorem dX7_leastGates_10 : decode cX7_leastGates 10 = .ok (.iconst 1, 1) := by decide +kernel
theorem dX7_leastGates_11 : decode cX7_leastGates 11 = .ok (.isub, 1) := by decide +kernel
theorem dX7_leastGates_12 : decode cX7_leastGates 12 = .ok (.invokestatic 29, 3) := by decide +kernel
theorem dX7_leastGates_15 : decode cX7_leastGates 15 = .ok (.ifCond .eq 23, 3) := by decide +kernel
theorem dX7_leastGates_18 : decode cX7_leastGates 18 = .ok (.iload_n 2, 1) := by decide +kernel
theorem dX7_leastGates_19 : decode cX7_leastGates 19 = .ok (.iconst 0, 1) := by decide +kernel
theorem dX7_leastGates_20 : decode cX7_leastGates 20 = .ok (.sipush 999, 3) := by decide +kernel
theorem dX7_leastGates_23 : decode cX7_leastGates 23 = .ok (.invokestatic 29, 3) := by decide +kernel
theorem dX7_leastGates_26 : decode cX7_leastGates 26 = .ok (.ifCond .eq 12, 3) := by decide +kernel
theorem dX7_leastGates_29 : decode cX7_leastGates 29 = .ok (.iload_n 3, 1) := by decide +kernel
theorem dX7_leastGates_30 : decode cX7_leastGates 30 = .ok (.iconst 1, 1) := by decide +kernel
theorem dX7_leastGates_31 : decode cX7_leastGates 31 = .ok (.iconst 5, 1) := by decide +kernel
theorem dX7_leastGates_32 : decode cX7_leastGates 32 = .ok (.invokestatic 29, 3) := by decide +kernel
theorem dX7_leastGates_35 : decode cX7_leastGates 35 = .ok (.ifCond .ne 6, 3) := by decide +kernel
theorem dX7_leastGates_38 : decode cX7_leastGates 38 = .ok (.ldc 37, 2) := by decide +kernel
theorem dX7_leastGates_40 : decode cX7_leastGates 40 = .ok (.ireturn, 1) := by decide +kernel
theorem dX7_leastGates_41 : decode cX7_leastGates 41 = .ok (.ldc 129, 2) := by decide +kernel
theorem dX7_leastGates_43 : decode cX7_leastGates 43 = .ok (.istore 4, 2) := by decide +kernel
theorem dX7_leastGates_45 : decode cX7_leastGates 45 = .ok (.aload_n 0, 1) := by decide +kernel
theorem dX7_leastGates_46 : decode cX7_leastGates 46 = .ok (.invokevirtual 139, 3) := by decide +kernel
theorem dX7_leastGates_49 : decode cX7_leastGates 49 = .ok (.iconst 0, 1) := by decide +kernel
theorem dX7_leastGates_50 : decode cX7_leastGates 50 = .ok (.istore 5, 2) := by decide +kernel
theorem dX7_leastGates_52 : decode cX7_leastGates 52 = .ok (.iload 5, 2) := by decide +kernel
theorem dX7_leastGates_54 : decode cX7_leastGates 54 = .ok (.iconst 1, 1) := by decide +kernel
theorem dX7_leastGates_55 : decode cX7_leastGates 55 = .ok (.aload_n 0, 1) := by decide +kernel
theorem dX7_leastGates_56 : decode cX7_leastGates 56 = .ok (.getfield 7, 3) := by decide +kernel
theorem dX7_leastGates_59 : decode cX7_leastGates 59 = .ok (.iconst 0, 1) := by decide +kernel
theorem dX7_leastGates_60 : decode cX7_leastGates 60 = .ok (.iaload, 1) := by decide +kernel
theorem dX7_leastGates_61 : decode cX7_leastGates 61 = .ok (.ishl, 1) := by decide +kernel
theorem dX7_leastGates_62 : decode cX7_leastGates 62 = .ok (.if_icmp .ge 75, 3) := by decide +kernel
theorem dX7_leastGates_65 : decode cX7_leastGates 65 = .ok (.iload 4, 2) := by decide +kernel
theorem dX7_leastGates_67 : decode cX7_leastGates 67 = .ok (.ifCond .lt 16, 3) := by decide +kernel
theorem dX7_leastGates_70 : decode cX7_leastGates 70 = .ok (.iload 5, 2) := by decide +kernel
theorem dX7_leastGates_72 : decode cX7_leastGates 72 = .ok (.invokestatic 80, 3) := by decide +kernel
theorem dX7_leastGates_75 : decode cX7_leastGates 75 = .ok (.iload 4, 2) := by decide +kernel
theorem dX7_leastGates_77 : decode cX7_leastGates 77 = .ok (.invokestatic 80, 3) := by decide +kernel
theorem dX7_leastGates_80 : decode cX7_leastGates 80 = .ok (.if_icmp .ge 51, 3) := by decide +kernel
theorem dX7_leastGates_83 : decode cX7_leastGates 83 = .ok (.aload_n 0, 1) := by decide +kernel
theorem dX7_leastGates_84 : decode cX7_leastGates 84 = .ok (.iload 5, 2) := by decide +kernel
theorem dX7_leastGates_86 : decode cX7_leastGates 86 = .ok (.invokevirtual 118, 3) := by decide +kernel
theorem dX7_leastGates_89 : decode cX7_leastGates 89 = .ok (.iconst 0, 1) := by decide +kernel
theorem dX7_leastGates_90 : decode cX7_leastGates 90 = .ok (.istore 6, 2) := by decide +kernel
theorem dX7_leastGates_92 : decode cX7_leastGates 92 = .ok (.iload 6, 2) := by decide +kernel
theorem dX7_leastGates_94 : decode cX7_leastGates 94 = .ok (.iload_n 3, 1) := by decide +kernel
theorem dX7_leastGates_95 : decode cX7_leastGates 95 = .ok (.if_icmp .ge 15, 3) := by decide +kernel
theorem dX7_leastGates_98 : decode cX7_leastGates 98 = .ok (.aload_n 0, 1) := by decide +kernel
theorem dX7_leastGates_99 : decode cX7_leastGates 99 = .ok (.iload_n 2, 1) := by decide +kernel
theorem dX7_leastGates_100 : decode cX7_leastGates 100 = .ok (.invokevirtual 112, 3) := by decide +kernel
theorem dX7_leastGates_103 : decode cX7_leastGates 103 = .ok (.pop, 1) := by decide +kernel
theorem dX7_leastGates_104 : decode cX7_leastGates 104 = .ok (.iinc 6 1, 3) := by decide +kernel
theorem dX7_leastGates_107 : decode cX7_leastGates 107 = .ok (.goto (-15), 3) := by decide +kernel
theorem dX7_leastGates_110 : decode cX7_leastGates 110 = .ok (.aload_n 0, 1) := by decide +kernel
theorem dX7_leastGates_111 : decode cX7_leastGates 111 = .ok (.iload_n 1, 1) := by decide +kernel
theorem dX7_leastGates_112 : decode cX7_leastGates 112 = .ok (.invokevirtual 145, 3) := by decide +kernel
theorem dX7_leastGates_115 : decode cX7_leastGates 115 = .ok (.ifCond .eq 8, 3) := by decide +kernel
theorem dX7_leastGates_118 : decode cX7_leastGates 118 = .ok (.iload 5, 2) := by decide +kernel
theorem dX7_leastGates_120 : decode cX7_leastGates 120 = .ok (.goto 5, 3) := by decide +kernel
theorem dX7_leastGates_123 : decode cX7_leastGates 123 = .ok (.iload 4, 2) := by decide +kernel
theorem dX7_leastGates_125 : decode cX7_leastGates 125 = .ok (.istore 4, 2) := by decide +kernel
theorem dX7_leastGates_127 : decode cX7_leastGates 127 = .ok (.aload_n 0, 1) := by decide +kernel
theorem dX7_leastGates_128 : decode cX7_leastGates 128 = .ok (.invokevirtual 142, 3) := by decide +kernel
theorem dX7_leastGates_131 : decode cX7_leastGates 131 = .ok (.iinc 5 2, 3) := by decide +kernel
theorem dX7_leastGates_134 : decode cX7_leastGates 134 = .ok (.goto (-82), 3) := by decide +kernel
theorem dX7_leastGates_137 : decode cX7_leastGates 137 = .ok (.iload 4, 2) := by decide +kernel
theorem dX7_leastGates_139 : decode cX7_leastGates 139 = .ok (.ireturn, 1) := by decide +kernel
theorem dX7_fewestBuckets_0 : decode cX7_fewestBuckets 0 = .ok (.aload_n 0, 1) := by decide +kernel
theorem dX7_fewestBuckets_1 : decode cX7_fewestBuckets 1 = .ok (.iload_n 1, 1) := by decide +kernel
theorem dX7_fewestBuckets_2 : decode cX7_fewestBuckets 2 = .ok (.invokevirtual 71, 3) := by decide +kernel
theorem dX7_fewestBuckets_5 : decode cX7_fewestBuckets 5 = .ok (.ifCond .ne 6, 3) := by decide +kernel
theorem dX7_fewestBuckets_8 : decode cX7_fewestBuckets 8 = .ok (.ldc 37, 2) := by decide +kernel
theorem dX7_fewestBuckets_10 : decode cX7_fewestBuckets 10 = .ok (.ireturn, 1) := by decide +kernel
theorem dX7_fewestBuckets_11 : decode cX7_fewestBuckets 11 = .ok (.ldc 129, 2) := by decide +kernel
theorem dX7_fewestBuckets_13 : decode cX7_fewestBuckets 13 = .ok (.istore_n 2, 1) := by decide +kernel
theorem dX7_fewestBuckets_14 : decode cX7_fewestBuckets 14 = .ok (.aload_n 0, 1) := by decide +kernel
theorem dX7_fewestBuckets_15 : decode cX7_fewestBuckets 15 = .ok (.invokevirtual 139, 3) := by decide +kernel
theorem dX7_fewestBuckets_18 : decode cX7_fewestBuckets 18 = .ok (.iconst 0, 1) := by decide +kernel
theorem dX7_fewestBuckets_19 : decode cX7_fewestBuckets 19 = .ok (.istore_n 3, 1) := by decide +kernel
theorem dX7_fewestBuckets_20 : decode cX7_fewestBuckets 20 = .ok (.iload_n 3, 1) := by decide +kernel
theorem dX7_fewestBuckets_21 : decode cX7_fewestBuckets 21 = .ok (.sipush 999, 3) := by decide +kernel
theorem dX7_fewestBuckets_24 : decode cX7_fewestBuckets 24 = .ok (.if_icmp .gt 48, 3) := by decide +kernel
theorem dX7_fewestBuckets_27 : decode cX7_fewestBuckets 27 = .ok (.iload_n 2, 1) := by decide +kernel
theorem dX7_fewestBuckets_28 : decode cX7_fewestBuckets 28 = .ok (.ifCond .ge 44, 3) := by decide +kernel
theorem dX7_fewestBuckets_31 : decode cX7_fewestBuckets 31 = .ok (.aload_n 0, 1) := by decide +kernel
theorem dX7_fewestBuckets_32 : decode cX7_fewestBuckets 32 = .ok (.iload_n 1, 1) := by decide +kernel
theorem dX7_fewestBuckets_33 : decode cX7_fewestBuckets 33 = .ok (.iconst 4, 1) := by decide +kernel
theorem dX7_fewestBuckets_34 : decode cX7_fewestBuckets 34 = .ok (.invokevirtual 33, 3) := by decide +kernel
theorem dX7_fewestBuckets_37 : decode cX7_fewestBuckets 37 = .ok (.istore 4, 2) := by decide +kernel
theorem dX7_fewestBuckets_39 : decode cX7_fewestBuckets 39 = .ok (.aload_n 0, 1) := by decide +kernel
theorem dX7_fewestBuckets_40 : decode cX7_fewestBuckets 40 = .ok (.iload_n 3, 1) := by decide +kernel
theorem dX7_fewestBuckets_41 : decode cX7_fewestBuckets 41 = .ok (.invokevirtual 112, 3) := by decide +kernel
theorem dX7_fewestBuckets_44 : decode cX7_fewestBuckets 44 = .ok (.pop, 1) := by decide +kernel
theorem dX7_fewestBuckets_45 : decode cX7_fewestBuckets 45 = .ok (.aload_n 0, 1) := by decide +kernel
theorem dX7_fewestBuckets_46 : decode cX7_fewestBuckets 46 = .ok (.iload_n 1, 1) := by decide +kernel
theorem dX7_fewestBuckets_47 : decode cX7_fewestBuckets 47 = .ok (.iconst 4, 1) := by decide +kernel
theorem dX7_fewestBuckets_48 : decode cX7_fewestBuckets 48 = .ok (.invokevirtual 33, 3) := by decide +kernel
theorem dX7_fewestBuckets_51 : decode cX7_fewestBuckets 51 = .ok (.iload 4, 2) := by decide +kernel
theorem dX7_fewestBuckets_53 : decode cX7_fewestBuckets 53 = .ok (.if_icmp .le 7, 3) := by decide +kernel
theorem dX7_fewestBuckets_56 : decode cX7_fewestBuckets 56 = .ok (.iload_n 3, 1) := by decide +kernel
theorem dX7_fewestBuckets_57 : decode cX7_fewestBuckets 57 = .ok (.goto 4, 3) := by decide +kernel
theorem dX7_fewestBuckets_60 : decode cX7_fewestBuckets 60 = .ok (.iload_n 2, 1) := by decide +kernel
theorem dX7_fewestBuckets_61 : decode cX7_fewestBuckets 61 = .ok (.istore_n 2, 1) := by decide +kernel
theorem dX7_fewestBuckets_62 : decode cX7_fewestBuckets 62 = .ok (.aload_n 0, 1) := by decide +kernel
theorem dX7_fewestBuckets_63 : decode cX7_fewestBuckets 63 = .ok (.invokevirtual 142, 3) := by decide +kernel
theorem dX7_fewestBuckets_66 : decode cX7_fewestBuckets 66 = .ok (.iinc 3 1, 3) := by decide +kernel
theorem dX7_fewestBuckets_69 : decode cX7_fewestBuckets 69 = .ok (.goto (-49), 3) := by decide +kernel
theorem dX7_fewestBuckets_72 : decode cX7_fewestBuckets 72 = .ok (.iload_n 2, 1) := by decide +kernel
theorem dX7_fewestBuckets_73 : decode cX7_fewestBuckets 73 = .ok (.ireturn, 1) := by decide +kernel
theorem dX7_hoursFor_0 : decode cX7_hoursFor 0 = .ok (.iload_n 1, 1) := by decide +kernel
theorem dX7_hoursFor_1 : decode cX7_hoursFor 1 = .ok (.iconst 0, 1) := by decide +kernel
theorem dX7_hoursFor_2 : decode cX7_hoursFor 2 = .ok (.sipush 999, 3) := by decide +kernel
theorem dX7_hoursFor_5 : decode cX7_hoursFor 5 = .ok (.invokestatic 29, 3) := by decide +kernel
theorem dX7_hoursFor_8 : decode cX7_hoursFor 8 = .ok (.ifCond .ne 6, 3) := by decide +kernel
theorem dX7_hoursFor_11 : decode cX7_hoursFor 11 = .ok (.ldc 37, 2) := by decide +kernel
theorem dX7_hoursFor_13 : decode cX7_hoursFor 13 = .ok (.ireturn, 1) := by decide +kernel
theorem dX7_hoursFor_14 : decode cX7_hoursFor 14 = .ok (.aload_n 0, 1) := by decide +kernel
theorem dX7_hoursFor_15 : decode cX7_hoursFor 15 = .ok (.invokevirtual 139, 3) := by decide +kernel
theorem dX7_hoursFor_18 : decode cX7_hoursFor 18 = .ok (.iconst 0, 1) := by decide +kernel
theorem dX7_hoursFor_19 : decode cX7_hoursFor 19 = .ok (.istore_n 2, 1) := by decide +kernel
theorem dX7_hoursFor_20 : decode cX7_hoursFor 20 = .ok (.iconst 1, 1) := by decide +kernel
theorem dX7_hoursFor_21 : decode cX7_hoursFor 21 = .ok (.aload_n 0, 1) := by decide +kernel
theorem dX7_hoursFor_22 : decode cX7_hoursFor 22 = .ok (.getfield 7, 3) := by decide +kernel
theorem dX7_hoursFor_25 : decode cX7_hoursFor 25 = .ok (.iconst 1, 1) := by decide +kernel
theorem dX7_hoursFor_26 : decode cX7_hoursFor 26 = .ok (.iaload, 1) := by decide +kernel
theorem dX7_hoursFor_27 : decode cX7_hoursFor 27 = .ok (.ishl, 1) := by decide +kernel
theorem dX7_hoursFor_28 : decode cX7_hoursFor 28 = .ok (.iconst 1, 1) := by decide +kernel
theorem dX7_hoursFor_29 : decode cX7_hoursFor 29 = .ok (.isub, 1) := by decide +kernel
theorem dX7_hoursFor_30 : decode cX7_hoursFor 30 = .ok (.istore_n 3, 1) := by decide +kernel
theorem dX7_hoursFor_31 : decode cX7_hoursFor 31 = .ok (.iload_n 2, 1) := by decide +kernel
theorem dX7_hoursFor_32 : decode cX7_hoursFor 32 = .ok (.bipush 100, 2) := by decide +kernel
theorem dX7_hoursFor_34 : decode cX7_hoursFor 34 = .ok (.if_icmp .ge 23, 3) := by decide +kernel
theorem dX7_hoursFor_37 : decode cX7_hoursFor 37 = .ok (.aload_n 0, 1) := by decide +kernel
theorem dX7_hoursFor_38 : decode cX7_hoursFor 38 = .ok (.iload_n 3, 1) := by decide +kernel
theorem dX7_hoursFor_39 : decode cX7_hoursFor 39 = .ok (.invokevirtual 145, 3) := by decide +kernel
theorem dX7_hoursFor_42 : decode cX7_hoursFor 42 = .ok (.ifCond .ne 15, 3) := by decide +kernel
theorem dX7_hoursFor_45 : decode cX7_hoursFor 45 = .ok (.aload_n 0, 1) := by decide +kernel
theorem dX7_hoursFor_46 : decode cX7_hoursFor 46 = .ok (.iload_n 1, 1) := by decide +kernel
theorem dX7_hoursFor_47 : decode cX7_hoursFor 47 = .ok (.invokevirtual 122, 3) := by decide +kernel
theorem dX7_hoursFor_50 : decode cX7_hoursFor 50 = .ok (.pop, 1) := by decide +kernel
theorem dX7_hoursFor_51 : decode cX7_hoursFor 51 = .ok (.iinc 2 1, 3) := by decide +kernel
theorem dX7_hoursFor_54 : decode cX7_hoursFor 54 = .ok (.goto (-23), 3) := by decide +kernel
theorem dX7_hoursFor_57 : decode cX7_hoursFor 57 = .ok (.aload_n 0, 1) := by decide +kernel
theorem dX7_hoursFor_58 : decode cX7_hoursFor 58 = .ok (.iload_n 3, 1) := by decide +kernel
theorem dX7_hoursFor_59 : decode cX7_hoursFor 59 = .ok (.invokevirtual 145, 3) := by decide +kernel
theorem dX7_hoursFor_62 : decode cX7_hoursFor 62 = .ok (.istore 4, 2) := by decide +kernel
theorem dX7_hoursFor_64 : decode cX7_hoursFor 64 = .ok (.aload_n 0, 1) := by decide +kernel
theorem dX7_hoursFor_65 : decode cX7_hoursFor 65 = .ok (.invokevirtual 142, 3) := by decide +kernel
theorem dX7_hoursFor_68 : decode cX7_hoursFor 68 = .ok (.iload 4, 2) := by decide +kernel
theorem dX7_hoursFor_70 : decode cX7_hoursFor 70 = .ok (.ifCond .eq 7, 3) := by decide +kernel
theorem dX7_hoursFor_73 : decode cX7_hoursFor 73 = .ok (.iload_n 2, 1) := by decide +kernel
theorem dX7_hoursFor_74 : decode cX7_hoursFor 74 = .ok (.goto 5, 3) := by decide +kernel
theorem dX7_hoursFor_77 : decode cX7_hoursFor 77 = .ok (.ldc 129, 2) := by decide +kernel
theorem dX7_hoursFor_79 : decode cX7_hoursFor 79 = .ok (.ireturn, 1) := by decide +kernel
theorem dX7_rightAt_0 : decode cX7_rightAt 0 = .ok (.iload_n 1, 1) := by decide +kernel
theorem dX7_rightAt_1 : decode cX7_rightAt 1 = .ok (.ifCond .ge 6, 3) := by decide +kernel
theorem dX7_rightAt_4 : decode cX7_rightAt 4 = .ok (.ldc 37, 2) := by decide +kernel
theorem dX7_rightAt_6 : decode cX7_rightAt 6 = .ok (.ireturn, 1) := by decide +kernel
theorem dX7_rightAt_7 : decode cX7_rightAt 7 = .ok (.iconst 0, 1) := by decide +kernel
theorem dX7_rightAt_8 : decode cX7_rightAt 8 = .ok (.istore_n 2, 1) := by decide +kernel
theorem dX7_rightAt_9 : decode cX7_rightAt 9 = .ok (.iconst 0, 1) := by decide +kernel
theorem dX7_rightAt_10 : decode cX7_rightAt 10 = .ok (.istore_n 3, 1) := by decide +kernel
theorem dX7_rightAt_11 : decode cX7_rightAt 11 = .ok (.iload_n 3, 1) := by decide +kernel
theorem dX7_rightAt_12 : decode cX7_rightAt 12 = .ok (.aload_n 0, 1) := by decide +kernel
theorem dX7_rightAt_13 : decode cX7_rightAt 13 = .ok (.getfield 7, 3) := by decide +kernel
theorem dX7_rightAt_16 : decode cX7_rightAt 16 = .ok (.iconst 1, 1) := by decide +kernel
theorem dX7_rightAt_17 : decode cX7_rightAt 17 = .ok (.iaload, 1) := by decide +kernel
theorem dX7_rightAt_18 : decode cX7_rightAt 18 = .ok (.if_icmp .ge 27, 3) := by decide +kernel
theorem dX7_rightAt_21 : decode cX7_rightAt 21 = .ok (.iload_n 2, 1) := by decide +kernel
theorem dX7_rightAt_22 : decode cX7_rightAt 22 = .ok (.aload_n 0, 1) := by decide +kernel
theorem dX7_rightAt_23 : decode cX7_rightAt 23 = .ok (.iload_n 3, 1) := by decide +kernel
theorem dX7_rightAt_24 : decode cX7_rightAt 24 = .ok (.invokevirtual 74, 3) := by decide +kernel
theorem dX7_rightAt_27 : decode cX7_rightAt 27 = .ok (.ifCond .eq 9, 3) := by decide +kernel
theorem dX7_rightAt_30 : decode cX7_rightAt 30 = .ok (.iconst 1, 1) := by decide +kernel
theorem dX7_rightAt_31 : decode cX7_rightAt 31 = .ok (.iload_n 3, 1) := by decide +kernel
theorem dX7_rightAt_32 : decode cX7_rightAt 32 = .ok (.ishl, 1) := by decide +kernel
theorem dX7_rightAt_33 : decode cX7_rightAt 33 = .ok (.goto 4, 3) := by decide +kernel
theorem dX7_rightAt_36 : decode cX7_rightAt 36 = .ok (.iconst 0, 1) := by decide +kernel
theorem dX7_rightAt_37 : decode cX7_rightAt 37 = .ok (.ior, 1) := by decide +kernel
theorem dX7_rightAt_38 : decode cX7_rightAt 38 = .ok (.istore_n 2, 1) := by decide +kernel
theorem dX7_rightAt_39 : decode cX7_rightAt 39 = .ok (.iinc 3 1, 3) := by decide +kernel
theorem dX7_rightAt_42 : decode cX7_rightAt 42 = .ok (.goto (-31), 3) := by decide +kernel
theorem dX7_rightAt_45 : decode cX7_rightAt 45 = .ok (.aload_n 0, 1) := by decide +kernel
theorem dX7_rightAt_46 : decode cX7_rightAt 46 = .ok (.iload_n 2, 1) := by decide +kernel
theorem dX7_rightAt_47 : decode cX7_rightAt 47 = .ok (.invokevirtual 96, 3) := by decide +kernel
theorem dX7_rightAt_50 : decode cX7_rightAt 50 = .ok (.istore_n 3, 1) := by decide +kernel
theorem dX7_rightAt_51 : decode cX7_rightAt 51 = .ok (.iconst 0, 1) := by decide +kernel
theorem dX7_rightAt_52 : decode cX7_rightAt 52 = .ok (.istore 4, 2) := by decide +kernel
theorem dX7_rightAt_54 : decode cX7_rightAt 54 = .ok (.iload 4, 2) := by decide +kernel
theorem dX7_rightAt_56 : decode cX7_rightAt 56 = .ok (.iload_n 1, 1) := by decide +kernel
theorem dX7_rightAt_57 : decode cX7_rightAt 57 = .ok (.if_icmp .ge 27, 3) := by decide +kernel
theorem dX7_rightAt_60 : decode cX7_rightAt 60 = .ok (.iload_n 3, 1) := by decide +kernel
theorem dX7_rightAt_61 : decode cX7_rightAt 61 = .ok (.ifCond .lt 23, 3) := by decide +kernel
theorem dX7_rightAt_64 : decode cX7_rightAt 64 = .ok (.iload_n 2, 1) := by decide +kernel
theorem dX7_rightAt_65 : decode cX7_rightAt 65 = .ok (.iconst 1, 1) := by decide +kernel
theorem dX7_rightAt_66 : decode cX7_rightAt 66 = .ok (.iload_n 3, 1) := by decide +kernel
theorem dX7_rightAt_67 : decode cX7_rightAt 67 = .ok (.ishl, 1) := by decide +kernel
theorem dX7_rightAt_68 : decode cX7_rightAt 68 = .ok (.iconst (-1), 1) := by decide +kernel
theorem dX7_rightAt_69 : decode cX7_rightAt 69 = .ok (.ixor, 1) := by decide +kernel
theorem dX7_rightAt_70 : decode cX7_rightAt 70 = .ok (.iand, 1) := by decide +kernel
theorem dX7_rightAt_71 : decode cX7_rightAt 71 = .ok (.istore_n 2, 1) := by decide +kernel
theorem dX7_rightAt_72 : decode cX7_rightAt 72 = .ok (.aload_n 0, 1) := by decide +kernel
theorem dX7_rightAt_73 : decode cX7_rightAt 73 = .ok (.iload_n 2, 1) := by decide +kernel
theorem dX7_rightAt_74 : decode cX7_rightAt 74 = .ok (.invokevirtual 96, 3) := by decide +kernel
theorem dX7_rightAt_77 : decode cX7_rightAt 77 = .ok (.istore_n 3, 1) := by decide +kernel
theorem dX7_rightAt_78 : decode cX7_rightAt 78 = .ok (.iinc 4 1, 3) := by decide +kernel
theorem dX7_rightAt_81 : decode cX7_rightAt 81 = .ok (.goto (-27), 3) := by decide +kernel
theorem dX7_rightAt_84 : decode cX7_rightAt 84 = .ok (.iload_n 3, 1) := by decide +kernel
theorem dX7_rightAt_85 : decode cX7_rightAt 85 = .ok (.ifCond .ge 8, 3) := by decide +kernel
theorem dX7_rightAt_88 : decode cX7_rightAt 88 = .ok (.ldc 129, 2) := by decide +kernel
theorem dX7_rightAt_90 : decode cX7_rightAt 90 = .ok (.goto 4, 3) := by decide +kernel
theorem dX7_rightAt_93 : decode cX7_rightAt 93 = .ok (.iload_n 3, 1) := by decide +kernel
theorem dX7_rightAt_94 : decode cX7_rightAt 94 = .ok (.ireturn, 1) := by decide +kernel
theorem dX7_tendedOnes_0 : decode cX7_tendedOnes 0 = .ok (.iconst 0, 1) := by decide +kernel
theorem dX7_tendedOnes_1 : decode cX7_tendedOnes 1 = .ok (.istore_n 1, 1) := by decide +kernel
theorem dX7_tendedOnes_2 : decode cX7_tendedOnes 2 = .ok (.iconst 1, 1) := by decide +kernel
theorem dX7_tendedOnes_3 : decode cX7_tendedOnes 3 = .ok (.istore_n 2, 1) := by decide +kernel
theorem dX7_tendedOnes_4 : decode cX7_tendedOnes 4 = .ok (.iload_n 2, 1) := by decide +kernel
theorem dX7_tendedOnes_5 : decode cX7_tendedOnes 5 = .ok (.aload_n 0, 1) := by decide +kernel
theorem dX7_tendedOnes_6 : decode cX7_tendedOnes 6 = .ok (.getfield 7, 3) := by decide +kernel
theorem dX7_tendedOnes_9 : decode cX7_tendedOnes 9 = .ok (.iconst 0, 1) := by decide +kernel
theorem dX7_tendedOnes_10 : decode cX7_tendedOnes 10 = .ok (.iaload, 1) := by decide +kernel
theorem dX7_tendedOnes_11 : decode cX7_tendedOnes 11 = .ok (.if_icmp .ge 28, 3) := by decide +kernel
theorem dX7_tendedOnes_14 : decode cX7_tendedOnes 14 = .ok (.iload_n 1, 1) := by decide +kernel
theorem dX7_tendedOnes_15 : decode cX7_tendedOnes 15 = .ok (.aload_n 0, 1) := by decide +kernel
theorem dX7_tendedOnes_16 : decode cX7_tendedOnes 16 = .ok (.iload_n 2, 1) := by decide +kernel
theorem dX7_tendedOnes_17 : decode cX7_tendedOnes 17 = .ok (.iconst 5, 1) := by decide +kernel
theorem dX7_tendedOnes_18 : decode cX7_tendedOnes 18 = .ok (.invokevirtual 54, 3) := by decide +kernel
theorem dX7_tendedOnes_21 : decode cX7_tendedOnes 21 = .ok (.ifCond .lt 9, 3) := by decide +kernel
theorem dX7_tendedOnes_24 : decode cX7_tendedOnes 24 = .ok (.iconst 1, 1) := by decide +kernel
theorem dX7_tendedOnes_25 : decode cX7_tendedOnes 25 = .ok (.iload_n 2, 1) := by decide +kernel
theorem dX7_tendedOnes_26 : decode cX7_tendedOnes 26 = .ok (.ishl, 1) := by decide +kernel
theorem dX7_tendedOnes_27 : decode cX7_tendedOnes 27 = .ok (.goto 4, 3) := by decide +kernel
theorem dX7_tendedOnes_30 : decode cX7_tendedOnes 30 = .ok (.iconst 0, 1) := by decide +kernel
theorem dX7_tendedOnes_31 : decode cX7_tendedOnes 31 = .ok (.ior, 1) := by decide +kernel
theorem dX7_tendedOnes_32 : decode cX7_tendedOnes 32 = .ok (.istore_n 1, 1) := by decide +kernel
theorem dX7_tendedOnes_33 : decode cX7_tendedOnes 33 = .ok (.iinc 2 1, 3) := by decide +kernel
theorem dX7_tendedOnes_36 : decode cX7_tendedOnes 36 = .ok (.goto (-32), 3) := by decide +kernel
theorem dX7_tendedOnes_39 : decode cX7_tendedOnes 39 = .ok (.iload_n 1, 1) := by decide +kernel
theorem dX7_tendedOnes_40 : decode cX7_tendedOnes 40 = .ok (.ireturn, 1) := by decide +kernel
theorem dX7_wanting_0 : decode cX7_wanting 0 = .ok (.iconst 0, 1) := by decide +kernel
theorem dX7_wanting_1 : decode cX7_wanting 1 = .ok (.istore_n 1, 1) := by decide +kernel
theorem dX7_wanting_2 : decode cX7_wanting 2 = .ok (.iconst 0, 1) := by decide +kernel
theorem dX7_wanting_3 : decode cX7_wanting 3 = .ok (.istore_n 2, 1) := by decide +kernel
theorem dX7_wanting_4 : decode cX7_wanting 4 = .ok (.iload_n 2, 1) := by decide +kernel
theorem dX7_wanting_5 : decode cX7_wanting 5 = .ok (.aload_n 0, 1) := by decide +kernel
theorem dX7_wanting_6 : decode cX7_wanting 6 = .ok (.getfield 7, 3) := by decide +kernel
theorem dX7_wanting_9 : decode cX7_wanting 9 = .ok (.iconst 1, 1) := by decide +kernel
theorem dX7_wanting_10 : decode cX7_wanting 10 = .ok (.iaload, 1) := by decide +kernel
theorem dX7_wanting_11 : decode cX7_wanting 11 = .ok (.if_icmp .ge 25, 3) := by decide +kernel
theorem dX7_wanting_14 : decode cX7_wanting 14 = .ok (.iload_n 1, 1) := by decide +kernel
theorem dX7_wanting_15 : decode cX7_wanting 15 = .ok (.aload_n 0, 1) := by decide +kernel
theorem dX7_wanting_16 : decode cX7_wanting 16 = .ok (.iload_n 2, 1) := by decide +kernel
theorem dX7_wanting_17 : decode cX7_wanting 17 = .ok (.invokevirtual 74, 3) := by decide +kernel
theorem dX7_wanting_20 : decode cX7_wanting 20 = .ok (.ifCond .eq 7, 3) := by decide +kernel
theorem dX7_wanting_23 : decode cX7_wanting 23 = .ok (.iconst 1, 1) := by decide +kernel
theorem dX7_wanting_24 : decode cX7_wanting 24 = .ok (.goto 4, 3) := by decide +kernel
theorem dX7_wanting_27 : decode cX7_wanting 27 = .ok (.iconst 0, 1) := by decide +kernel
theorem dX7_wanting_28 : decode cX7_wanting 28 = .ok (.iadd, 1) := by decide +kernel
theorem dX7_wanting_29 : decode cX7_wanting 29 = .ok (.istore_n 1, 1) := by decide +kernel
theorem dX7_wanting_30 : decode cX7_wanting 30 = .ok (.iinc 2 1, 3) := by decide +kernel
theorem dX7_wanting_33 : decode cX7_wanting 33 = .ok (.goto (-29), 3) := by decide +kernel
theorem dX7_wanting_36 : decode cX7_wanting 36 = .ok (.iload_n 1, 1) := by decide +kernel
theorem dX7_wanting_37 : decode cX7_wanting 37 = .ok (.ireturn, 1) := by decide +kernel
theorem dX7_count_0 : decode cX7_count 0 = .ok (.iload_n 1, 1) := by decide +kernel
theorem dX7_count_1 : decode cX7_count 1 = .ok (.tableswitch 163 0 15 #[79, 79, 86, 91, 96, 101, 106, 106, 106, 106, 106, 118, 125, 146, 153, 158], 79) := by decide +kernel
theorem dX7_count_80 : decode cX7_count 80 = .ok (.aload_n 0, 1) := by decide +kernel
theorem dX7_count_81 : decode cX7_count 81 = .ok (.getfield 7, 3) := by decide +kernel
theorem dX7_count_84 : decode cX7_count 84 = .ok (.iload_n 1, 1) := by decide +kernel
theorem dX7_count_85 : decode cX7_count 85 = .ok (.iaload, 1) := by decide +kernel
theorem dX7_count_86 : decode cX7_count 86 = .ok (.ireturn, 1) := by decide +kernel
theorem dX7_count_87 : decode cX7_count 87 = .ok (.aload_n 0, 1) := by decide +kernel
theorem dX7_count_88 : decode cX7_count 88 = .ok (.invokevirtual 148, 3) := by decide +kernel
theorem dX7_count_91 : decode cX7_count 91 = .ok (.ireturn, 1) := by decide +kernel
theorem dX7_count_92 : decode cX7_count 92 = .ok (.aload_n 0, 1) := by decide +kernel
theorem dX7_count_93 : decode cX7_count 93 = .ok (.invokevirtual 77, 3) := by decide +kernel
theorem dX7_count_96 : decode cX7_count 96 = .ok (.ireturn, 1) := by decide +kernel
theorem dX7_count_97 : decode cX7_count 97 = .ok (.aload_n 0, 1) := by decide +kernel
theorem dX7_count_98 : decode cX7_count 98 = .ok (.invokevirtual 64, 3) := by decide +kernel
theorem dX7_count_101 : decode cX7_count 101 = .ok (.ireturn, 1) := by decide +kernel
theorem dX7_count_102 : decode cX7_count 102 = .ok (.aload_n 0, 1) := by decide +kernel
theorem dX7_count_103 : decode cX7_count 103 = .ok (.invokevirtual 151, 3) := by decide +kernel
theorem dX7_count_106 : decode cX7_count 106 = .ok (.ireturn, 1) := by decide +kernel
theorem dX7_count_107 : decode cX7_count 107 = .ok (.aload_n 0, 1) := by decide +kernel
theorem dX7_count_108 : decode cX7_count 108 = .ok (.getfield 7, 3) := by decide +kernel
theorem dX7_count_111 : decode cX7_count 111 = .ok (.iconst 5, 1) := by decide +kernel
theorem dX7_count_112 : decode cX7_count 112 = .ok (.iload_n 1, 1) := by decide +kernel
theorem dX7_count_113 : decode cX7_count 113 = .ok (.iadd, 1) := by decide +kernel
theorem dX7_count_114 : decode cX7_count 114 = .ok (.bipush 6, 2) := by decide +kernel
theorem dX7_count_116 : decode cX7_count 116 = .ok (.isub, 1) := by decide +kernel
theorem dX7_count_117 : decode cX7_count 117 = .ok (.iaload, 1) := by decide +kernel
theorem dX7_count_118 : decode cX7_count 118 = .ok (.ireturn, 1) := by decide +kernel
theorem dX7_count_119 : decode cX7_count 119 = .ok (.aload_n 0, 1) := by decide +kernel
theorem dX7_count_120 : decode cX7_count 120 = .ok (.getfield 7, 3) := by decide +kernel
theorem dX7_count_123 : decode cX7_count 123 = .ok (.iconst 2, 1) := by decide +kernel
theorem dX7_count_124 : decode cX7_count 124 = .ok (.iaload, 1) := by decide +kernel
theorem dX7_count_125 : decode cX7_count 125 = .ok (.ireturn, 1) := by decide +kernel
theorem dX7_count_126 : decode cX7_count 126 = .ok (.aload_n 0, 1) := by decide +kernel
theorem dX7_count_127 : decode cX7_count 127 = .ok (.getfield 7, 3) := by decide +kernel
theorem dX7_count_130 : decode cX7_count 130 = .ok (.iconst 2, 1) := by decide +kernel
theorem dX7_count_131 : decode cX7_count 131 = .ok (.iaload, 1) := by decide +kernel
theorem dX7_count_132 : decode cX7_count 132 = .ok (.ifCond .ne 8, 3) := by decide +kernel
theorem dX7_count_135 : decode cX7_count 135 = .ok (.ldc 129, 2) := by decide +kernel
theorem dX7_count_137 : decode cX7_count 137 = .ok (.goto 9, 3) := by decide +kernel
theorem dX7_count_140 : decode cX7_count 140 = .ok (.aload_n 0, 1) := by decide +kernel
theorem dX7_count_141 : decode cX7_count 141 = .ok (.getfield 7, 3) := by decide +kernel
theorem dX7_count_144 : decode cX7_count 144 = .ok (.iconst 3, 1) := by decide +kernel
theorem dX7_count_145 : decode cX7_count 145 = .ok (.iaload, 1) := by decide +kernel
theorem dX7_count_146 : decode cX7_count 146 = .ok (.ireturn, 1) := by decide +kernel
theorem dX7_count_147 : decode cX7_count 147 = .ok (.aload_n 0, 1) := by decide +kernel
theorem dX7_count_148 : decode cX7_count 148 = .ok (.getfield 7, 3) := by decide +kernel
theorem dX7_count_151 : decode cX7_count 151 = .ok (.iconst 4, 1) := by decide +kernel
theorem dX7_count_152 : decode cX7_count 152 = .ok (.iaload, 1) := by decide +kernel
theorem dX7_count_153 : decode cX7_count 153 = .ok (.ireturn, 1) := by decide +kernel
theorem dX7_count_154 : decode cX7_count 154 = .ok (.aload_n 0, 1) := by decide +kernel
theorem dX7_count_155 : decode cX7_count 155 = .ok (.getfield 38, 3) := by decide +kernel
theorem dX7_count_158 : decode cX7_count 158 = .ok (.ireturn, 1) := by decide +kernel
theorem dX7_count_159 : decode cX7_count 159 = .ok (.aload_n 0, 1) := by decide +kernel
theorem dX7_count_160 : decode cX7_count 160 = .ok (.getfield 154, 3) := by decide +kernel
theorem dX7_count_163 : decode cX7_count 163 = .ok (.ireturn, 1) := by decide +kernel
theorem dX7_count_164 : decode cX7_count 164 = .ok (.ldc 37, 2) := by decide +kernel
theorem dX7_count_166 : decode cX7_count 166 = .ok (.ireturn, 1) := by decide +kernel
theorem dX7_undo_0 : decode cX7_undo 0 = .ok (.aload_n 0, 1) := by decide +kernel
theorem dX7_undo_1 : decode cX7_undo 1 = .ok (.getfield 38, 3) := by decide +kernel
theorem dX7_undo_4 : decode cX7_undo 4 = .ok (.ifCond .ne 6, 3) := by decide +kernel
theorem dX7_undo_7 : decode cX7_undo 7 = .ok (.ldc 60, 2) := by decide +kernel
theorem dX7_undo_9 : decode cX7_undo 9 = .ok (.ireturn, 1) := by decide +kernel
theorem dX7_undo_10 : decode cX7_undo 10 = .ok (.aload_n 0, 1) := by decide +kernel
theorem dX7_undo_11 : decode cX7_undo 11 = .ok (.dup, 1) := by decide +kernel
theorem dX7_undo_12 : decode cX7_undo 12 = .ok (.getfield 38, 3) := by decide +kernel
theorem dX7_undo_15 : decode cX7_undo 15 = .ok (.iconst 1, 1) := by decide +kernel
theorem dX7_undo_16 : decode cX7_undo 16 = .ok (.isub, 1) := by decide +kernel
theorem dX7_undo_17 : decode cX7_undo 17 = .ok (.putfield 38, 3) := by decide +kernel
theorem dX7_undo_20 : decode cX7_undo 20 = .ok (.iconst 0, 1) := by decide +kernel
theorem dX7_undo_21 : decode cX7_undo 21 = .ok (.istore_n 1, 1) := by decide +kernel
theorem dX7_undo_22 : decode cX7_undo 22 = .ok (.iload_n 1, 1) := by decide +kernel
theorem dX7_undo_23 : decode cX7_undo 23 = .ok (.sipush 168, 3) := by decide +kernel
theorem dX7_undo_26 : decode cX7_undo 26 = .ok (.if_icmp .ge 30, 3) := by decide +kernel
theorem dX7_undo_29 : decode cX7_undo 29 = .ok (.aload_n 0, 1) := by decide +kernel
theorem dX7_undo_30 : decode cX7_undo 30 = .ok (.getfield 7, 3) := by decide +kernel
theorem dX7_undo_33 : decode cX7_undo 33 = .ok (.iload_n 1, 1) := by decide +kernel
theorem dX7_undo_34 : decode cX7_undo 34 = .ok (.aload_n 0, 1) := by decide +kernel
theorem dX7_undo_35 : decode cX7_undo 35 = .ok (.getfield 13, 3) := by decide +kernel
theorem dX7_undo_38 : decode cX7_undo 38 = .ok (.sipush 168, 3) := by decide +kernel
theorem dX7_undo_41 : decode cX7_undo 41 = .ok (.aload_n 0, 1) := by decide +kernel
theorem dX7_undo_42 : decode cX7_undo 42 = .ok (.getfield 38, 3) := by decide +kernel
theorem dX7_undo_45 : decode cX7_undo 45 = .ok (.imul, 1) := by decide +kernel
theorem dX7_undo_46 : decode cX7_undo 46 = .ok (.iload_n 1, 1) := by decide +kernel
theorem dX7_undo_47 : decode cX7_undo 47 = .ok (.iadd, 1) := by decide +kernel
theorem dX7_undo_48 : decode cX7_undo 48 = .ok (.iaload, 1) := by decide +kernel
theorem dX7_undo_49 : decode cX7_undo 49 = .ok (.iastore, 1) := by decide +kernel
theorem dX7_undo_50 : decode cX7_undo 50 = .ok (.iinc 1 1, 3) := by decide +kernel
theorem dX7_undo_53 : decode cX7_undo 53 = .ok (.goto (-31), 3) := by decide +kernel
theorem dX7_undo_56 : decode cX7_undo 56 = .ok (.aload_n 0, 1) := by decide +kernel
theorem dX7_undo_57 : decode cX7_undo 57 = .ok (.getfield 38, 3) := by decide +kernel
theorem dX7_undo_60 : decode cX7_undo 60 = .ok (.ireturn, 1) := by decide +kernel
theorem dX7_type_0 : decode cX7_type 0 = .ok (.iload_n 1, 1) := by decide +kernel
theorem dX7_type_1 : decode cX7_type 1 = .ok (.bipush 32, 2) := by decide +kernel
theorem dX7_type_3 : decode cX7_type 3 = .ok (.bipush 126, 2) := by decide +kernel
theorem dX7_type_5 : decode cX7_type 5 = .ok (.invokestatic 29, 3) := by decide +kernel
theorem dX7_type_8 : decode cX7_type 8 = .ok (.ifCond .ne 6, 3) := by decide +kernel
theorem dX7_type_11 : decode cX7_type 11 = .ok (.ldc 37, 2) := by decide +kernel
theorem dX7_type_13 : decode cX7_type 13 = .ok (.ireturn, 1) := by decide +kernel
theorem dX7_type_14 : decode cX7_type 14 = .ok (.aload_n 0, 1) := by decide +kernel
theorem dX7_type_15 : decode cX7_type 15 = .ok (.getfield 154, 3) := by decide +kernel
theorem dX7_type_18 : decode cX7_type 18 = .ok (.bipush 60, 2) := by decide +kernel
theorem dX7_type_20 : decode cX7_type 20 = .ok (.if_icmp .ne 6, 3) := by decide +kernel
theorem dX7_type_23 : decode cX7_type 23 = .ok (.ldc 46, 2) := by decide +kernel
theorem dX7_type_25 : decode cX7_type 25 = .ok (.ireturn, 1) := by decide +kernel
theorem dX7_type_26 : decode cX7_type 26 = .ok (.aload_n 0, 1) := by decide +kernel
theorem dX7_type_27 : decode cX7_type 27 = .ok (.getfield 22, 3) := by decide +kernel
theorem dX7_type_30 : decode cX7_type 30 = .ok (.aload_n 0, 1) := by decide +kernel
theorem dX7_type_31 : decode cX7_type 31 = .ok (.getfield 154, 3) := by decide +kernel
theorem dX7_type_34 : decode cX7_type 34 = .ok (.iload_n 1, 1) := by decide +kernel
theorem dX7_type_35 : decode cX7_type 35 = .ok (.i2c, 1) := by decide +kernel
theorem dX7_type_36 : decode cX7_type 36 = .ok (.castore, 1) := by decide +kernel
theorem dX7_type_37 : decode cX7_type 37 = .ok (.aload_n 0, 1) := by decide +kernel
theorem dX7_type_38 : decode cX7_type 38 = .ok (.dup, 1) := by decide +kernel
theorem dX7_type_39 : decode cX7_type 39 = .ok (.getfield 154, 3) := by decide +kernel
theorem dX7_type_42 : decode cX7_type 42 = .ok (.iconst 1, 1) := by decide +kernel
theorem dX7_type_43 : decode cX7_type 43 = .ok (.iadd, 1) := by decide +kernel
theorem dX7_type_44 : decode cX7_type 44 = .ok (.putfield 154, 3) := by decide +kernel
theorem dX7_type_47 : decode cX7_type 47 = .ok (.aload_n 0, 1) := by decide +kernel
theorem dX7_type_48 : decode cX7_type 48 = .ok (.getfield 154, 3) := by decide +kernel
theorem dX7_type_51 : decode cX7_type 51 = .ok (.ireturn, 1) := by decide +kernel
theorem dX7_clearText_0 : decode cX7_clearText 0 = .ok (.aload_n 0, 1) := by decide +kernel
theorem dX7_clearText_1 : decode cX7_clearText 1 = .ok (.getfield 154, 3) := by decide +kernel
theorem dX7_clearText_4 : decode cX7_clearText 4 = .ok (.istore_n 1, 1) := by decide +kernel
theorem dX7_clearText_5 : decode cX7_clearText 5 = .ok (.aload_n 0, 1) := by decide +kernel
theorem dX7_clearText_6 : decode cX7_clearText 6 = .ok (.iconst 0, 1) := by decide +kernel
theorem dX7_clearText_7 : decode cX7_clearText 7 = .ok (.putfield 154, 3) := by decide +kernel
theorem dX7_clearText_10 : decode cX7_clearText 10 = .ok (.iload_n 1, 1) := by decide +kernel
theorem dX7_clearText_11 : decode cX7_clearText 11 = .ok (.ireturn, 1) := by decide +kernel
theorem dX7_sign_0 : decode cX7_sign 0 = .ok (.aload_n 0, 1) := by decide +kernel
theorem dX7_sign_1 : decode cX7_sign 1 = .ok (.getfield 157, 3) := by decide +kernel
theorem dX7_sign_4 : decode cX7_sign 4 = .ok (.aload_n 0, 1) := by decide +kernel
theorem dX7_sign_5 : decode cX7_sign 5 = .ok (.getfield 154, 3) := by decide +kernel
theorem dX7_sign_8 : decode cX7_sign 8 = .ok (.if_icmp .ge 15, 3) := by decide +kernel
theorem dX7_sign_11 : decode cX7_sign 11 = .ok (.aload_n 0, 1) := by decide +kernel
theorem dX7_sign_12 : decode cX7_sign 12 = .ok (.getfield 22, 3) := by decide +kernel
theorem dX7_sign_15 : decode cX7_sign 15 = .ok (.aload_n 0, 1) := by decide +kernel
theorem dX7_sign_16 : decode cX7_sign 16 = .ok (.getfield 157, 3) := by decide +kernel
theorem dX7_sign_19 : decode cX7_sign 19 = .ok (.caload, 1) := by decide +kernel
theorem dX7_sign_20 : decode cX7_sign 20 = .ok (.goto 4, 3) := by decide +kernel
theorem dX7_sign_23 : decode cX7_sign 23 = .ok (.iconst (-1), 1) := by decide +kernel
theorem dX7_sign_24 : decode cX7_sign 24 = .ok (.ireturn, 1) := by decide +kernel
theorem dX7_readsNumber_0 : decode cX7_readsNumber 0 = .ok (.aload_n 0, 1) := by decide +kernel
theorem dX7_readsNumber_1 : decode cX7_readsNumber 1 = .ok (.getfield 157, 3) := by decide +kernel
theorem dX7_readsNumber_4 : decode cX7_readsNumber 4 = .ok (.istore_n 1, 1) := by decide +kernel
theorem dX7_readsNumber_5 : decode cX7_readsNumber 5 = .ok (.iconst 0, 1) := by decide +kernel
theorem dX7_readsNumber_6 : decode cX7_readsNumber 6 = .ok (.istore_n 2, 1) := by decide +kernel
theorem dX7_readsNumber_7 : decode cX7_readsNumber 7 = .ok (.aload_n 0, 1) := by decide +kernel
theorem dX7_readsNumber_8 : decode cX7_readsNumber 8 = .ok (.invokevirtual 160, 3) := by decide +kernel
theorem dX7_readsNumber_11 : decode cX7_readsNumber 11 = .ok (.bipush 48, 2) := by decide +kernel
theorem dX7_readsNumber_13 : decode cX7_readsNumber 13 = .ok (.bipush 57, 2) := by decide +kernel
theorem dX7_readsNumber_15 : decode cX7_readsNumber 15 = .ok (.invokestatic 29, 3) := by decide +kernel
theorem dX7_readsNumber_18 : decode cX7_readsNumber 18 = .ok (.ifCond .eq 39, 3) := by decide +kernel
theorem dX7_readsNumber_21 : decode cX7_readsNumber 21 = .ok (.aload_n 0, 1) := by decide +kernel
theorem dX7_readsNumber_22 : decode cX7_readsNumber 22 = .ok (.getfield 157, 3) := by decide +kernel
theorem dX7_readsNumber_25 : decode cX7_readsNumber 25 = .ok (.iload_n 1, 1) := by decide +kernel
theorem dX7_readsNumber_26 : decode cX7_readsNumber 26 = .ok (.iconst 3, 1) := by decide +kernel
theorem dX7_readsNumber_27 : decode cX7_readsNumber 27 = .ok (.iadd, 1) := by decide +kernel
theorem dX7_readsNumber_28 : decode cX7_readsNumber 28 = .ok (.if_icmp .ge 29, 3) := by decide +kernel
theorem dX7_readsNumber_31 : decode cX7_readsNumber 31 = .ok (.bipush 10, 2) := by decide +kernel
theorem dX7_readsNumber_33 : decode cX7_readsNumber 33 = .ok (.iload_n 2, 1) := by decide +kernel
theorem dX7_readsNumber_34 : decode cX7_readsNumber 34 = .ok (.imul, 1) := by decide +kernel
theorem dX7_readsNumber_35 : decode cX7_readsNumber 35 = .ok (.aload_n 0, 1) := by decide +kernel
theorem dX7_readsNumber_36 : decode cX7_readsNumber 36 = .ok (.invokevirtual 160, 3) := by decide +kernel
theorem dX7_readsNumber_39 : decode cX7_readsNumber 39 = .ok (.iadd, 1) := by decide +kernel
theorem dX7_readsNumber_40 : decode cX7_readsNumber 40 = .ok (.bipush 48, 2) := by decide +kernel
theorem dX7_readsNumber_42 : decode cX7_readsNumber 42 = .ok (.isub, 1) := by decide +kernel
theorem dX7_readsNumber_43 : decode cX7_readsNumber 43 = .ok (.istore_n 2, 1) := by decide +kernel
theorem dX7_readsNumber_44 : decode cX7_readsNumber 44 = .ok (.aload_n 0, 1) := by decide +kernel
theorem dX7_readsNumber_45 : decode cX7_readsNumber 45 = .ok (.dup, 1) := by decide +kernel
theorem dX7_readsNumber_46 : decode cX7_readsNumber 46 = .ok (.getfield 157, 3) := by decide +kernel
theorem dX7_readsNumber_49 : decode cX7_readsNumber 49 = .ok (.iconst 1, 1) := by decide +kernel
theorem dX7_readsNumber_50 : decode cX7_readsNumber 50 = .ok (.iadd, 1) := by decide +kernel
theorem dX7_readsNumber_51 : decode cX7_readsNumber 51 = .ok (.putfield 157, 3) := by decide +kernel
theorem dX7_readsNumber_54 : decode cX7_readsNumber 54 = .ok (.goto (-47), 3) := by decide +kernel
theorem dX7_readsNumber_57 : decode cX7_readsNumber 57 = .ok (.aload_n 0, 1) := by decide +kernel
theorem dX7_readsNumber_58 : decode cX7_readsNumber 58 = .ok (.getfield 26, 3) := by decide +kernel
theorem dX7_readsNumber_61 : decode cX7_readsNumber 61 = .ok (.aload_n 0, 1) := by decide +kernel
theorem dX7_readsNumber_62 : decode cX7_readsNumber 62 = .ok (.getfield 163, 3) := by decide +kernel
theorem dX7_readsNumber_65 : decode cX7_readsNumber 65 = .ok (.iload_n 2, 1) := by decide +kernel
theorem dX7_readsNumber_66 : decode cX7_readsNumber 66 = .ok (.iastore, 1) := by decide +kernel
theorem dX7_readsNumber_67 : decode cX7_readsNumber 67 = .ok (.aload_n 0, 1) := by decide +kernel
theorem dX7_readsNumber_68 : decode cX7_readsNumber 68 = .ok (.dup, 1) := by decide +kernel
theorem dX7_readsNumber_69 : decode cX7_readsNumber 69 = .ok (.getfield 163, 3) := by decide +kernel
theorem dX7_readsNumber_72 : decode cX7_readsNumber 72 = .ok (.iconst 1, 1) := by decide +kernel
theorem dX7_readsNumber_73 : decode cX7_readsNumber 73 = .ok (.iadd, 1) := by decide +kernel
theorem dX7_readsNumber_74 : decode cX7_readsNumber 74 = .ok (.putfield 163, 3) := by decide +kernel
theorem dX7_readsNumber_77 : decode cX7_readsNumber 77 = .ok (.aload_n 0, 1) := by decide +kernel
theorem dX7_readsNumber_78 : decode cX7_readsNumber 78 = .ok (.getfield 157, 3) := by decide +kernel
theorem dX7_readsNumber_81 : decode cX7_readsNumber 81 = .ok (.iload_n 1, 1) := by decide +kernel
theorem dX7_readsNumber_82 : decode cX7_readsNumber 82 = .ok (.if_icmp .le 7, 3) := by decide +kernel
theorem dX7_readsNumber_85 : decode cX7_readsNumber 85 = .ok (.iconst 1, 1) := by decide +kernel
theorem dX7_readsNumber_86 : decode cX7_readsNumber 86 = .ok (.goto 4, 3) := by decide +kernel
theorem dX7_readsNumber_89 : decode cX7_readsNumber 89 = .ok (.iconst 0, 1) := by decide +kernel
theorem dX7_readsNumber_90 : decode cX7_readsNumber 90 = .ok (.ireturn, 1) := by decide +kernel
theorem dX7_readsForm_0 : decode cX7_readsForm 0 = .ok (.aload_n 0, 1) := by decide +kernel
theorem dX7_readsForm_1 : decode cX7_readsForm 1 = .ok (.invokevirtual 160, 3) := by decide +kernel
theorem dX7_readsForm_4 : decode cX7_readsForm 4 = .ok (.istore_n 1, 1) := by decide +kernel
theorem dX7_readsForm_5 : decode cX7_readsForm 5 = .ok (.iload_n 1, 1) := by decide +kernel
theorem dX7_readsForm_6 : decode cX7_readsForm 6 = .ok (.bipush 111, 2) := by decide +kernel
theorem dX7_readsForm_8 : decode cX7_readsForm 8 = .ok (.if_icmp .eq 29, 3) := by decide +kernel
theorem dX7_readsForm_11 : decode cX7_readsForm 11 = .ok (.iload_n 1, 1) := by decide +kernel
theorem dX7_readsForm_12 : decode cX7_readsForm 12 = .ok (.bipush 99, 2) := by decide +kernel
theorem dX7_readsForm_14 : decode cX7_readsForm 14 = .ok (.if_icmp .eq 23, 3) := by decide +kernel
theorem dX7_readsForm_17 : decode cX7_readsForm 17 = .ok (.iload_n 1, 1) := by decide +kernel
theorem dX7_readsForm_18 : decode cX7_readsForm 18 = .ok (.bipush 121, 2) := by decide +kernel
theorem dX7_readsForm_20 : decode cX7_readsForm 20 = .ok (.if_icmp .eq 17, 3) := by decide +kernel
theorem dX7_readsForm_23 : decode cX7_readsForm 23 = .ok (.iload_n 1, 1) := by decide +kernel
theorem dX7_readsForm_24 : decode cX7_readsForm 24 = .ok (.bipush 104, 2) := by decide +kernel
theorem dX7_readsForm_26 : decode cX7_readsForm 26 = .ok (.if_icmp .eq 11, 3) := by decide +kernel
theorem dX7_readsForm_29 : decode cX7_readsForm 29 = .ok (.iload_n 1, 1) := by decide +kernel
theorem dX7_readsForm_30 : decode cX7_readsForm 30 = .ok (.bipush 114, 2) := by decide +kernel
theorem dX7_readsForm_32 : decode cX7_readsForm 32 = .ok (.if_icmp .eq 5, 3) := by decide +kernel
theorem dX7_readsForm_35 : decode cX7_readsForm 35 = .ok (.iconst 0, 1) := by decide +kernel
theorem dX7_readsForm_36 : decode cX7_readsForm 36 = .ok (.ireturn, 1) := by decide +kernel
theorem dX7_readsForm_37 : decode cX7_readsForm 37 = .ok (.aload_n 0, 1) := by decide +kernel
theorem dX7_readsForm_38 : decode cX7_readsForm 38 = .ok (.dup, 1) := by decide +kernel
theorem dX7_readsForm_39 : decode cX7_readsForm 39 = .ok (.getfield 157, 3) := by decide +kernel
theorem dX7_readsForm_42 : decode cX7_readsForm 42 = .ok (.iconst 1, 1) := by decide +kernel
theorem dX7_readsForm_43 : decode cX7_readsForm 43 = .ok (.iadd, 1) := by decide +kernel
theorem dX7_readsForm_44 : decode cX7_readsForm 44 = .ok (.putfield 157, 3) := by decide +kernel
theorem dX7_readsForm_47 : decode cX7_readsForm 47 = .ok (.aload_n 0, 1) := by decide +kernel
theorem dX7_readsForm_48 : decode cX7_readsForm 48 = .ok (.iconst 0, 1) := by decide +kernel
theorem dX7_readsForm_49 : decode cX7_readsForm 49 = .ok (.putfield 163, 3) := by decide +kernel
theorem dX7_readsForm_52 : decode cX7_readsForm 52 = .ok (.aload_n 0, 1) := by decide +kernel
theorem dX7_readsForm_53 : decode cX7_readsForm 53 = .ok (.invokevirtual 166, 3) := by decide +kernel
theorem dX7_readsForm_56 : decode cX7_readsForm 56 = .ok (.istore_n 2, 1) := by decide +kernel
theorem dX7_readsForm_57 : decode cX7_readsForm 57 = .ok (.iload_n 2, 1) := by decide +kernel
theorem dX7_readsForm_58 : decode cX7_readsForm 58 = .ok (.ifCond .eq 59, 3) := by decide +kernel
theorem dX7_readsForm_61 : decode cX7_readsForm 61 = .ok (.iload_n 1, 1) := by decide +kernel
theorem dX7_readsForm_62 : decode cX7_readsForm 62 = .ok (.bipush 114, 2) := by decide +kernel
theorem dX7_readsForm_64 : decode cX7_readsForm 64 = .ok (.if_icmp .ne 53, 3) := by decide +kernel
theorem dX7_readsForm_67 : decode cX7_readsForm 67 = .ok (.aload_n 0, 1) := by decide +kernel
theorem dX7_readsForm_68 : decode cX7_readsForm 68 = .ok (.invokevirtual 160, 3) := by decide +kernel
theorem dX7_readsForm_71 : decode cX7_readsForm 71 = .ok (.bipush 44, 2) := by decide +kernel
theorem dX7_readsForm_73 : decode cX7_readsForm 73 = .ok (.if_icmp .ne 7, 3) := by decide +kernel
theorem dX7_readsForm_76 : decode cX7_readsForm 76 = .ok (.iconst 1, 1) := by decide +kernel
theorem dX7_readsForm_77 : decode cX7_readsForm 77 = .ok (.goto 4, 3) := by decide +kernel
theorem dX7_readsForm_80 : decode cX7_readsForm 80 = .ok (.iconst 0, 1) := by decide +kernel
theorem dX7_readsForm_81 : decode cX7_readsForm 81 = .ok (.istore_n 2, 1) := by decide +kernel
theorem dX7_readsForm_82 : decode cX7_readsForm 82 = .ok (.aload_n 0, 1) := by decide +kernel
theorem dX7_readsForm_83 : decode cX7_readsForm 83 = .ok (.dup, 1) := by decide +kernel
theorem dX7_readsForm_84 : decode cX7_readsForm 84 = .ok (.getfield 157, 3) := by decide +kernel
theorem dX7_readsForm_87 : decode cX7_readsForm 87 = .ok (.iload_n 2, 1) := by decide +kernel
theorem dX7_readsForm_88 : decode cX7_readsForm 88 = .ok (.ifCond .eq 7, 3) := by decide +kernel
theorem dX7_readsForm_91 : decode cX7_readsForm 91 = .ok (.iconst 1, 1) := by decide +kernel
theorem dX7_readsForm_92 : decode cX7_readsForm 92 = .ok (.goto 4, 3) := by decide +kernel
theorem dX7_readsForm_95 : decode cX7_readsForm 95 = .ok (.iconst 0, 1) := by decide +kernel
theorem dX7_readsForm_96 : decode cX7_readsForm 96 = .ok (.iadd, 1) := by decide +kernel
theorem dX7_readsForm_97 : decode cX7_readsForm 97 = .ok (.putfield 157, 3) := by decide +kernel
theorem dX7_readsForm_100 : decode cX7_readsForm 100 = .ok (.iload_n 2, 1) := by decide +kernel
theorem dX7_readsForm_101 : decode cX7_readsForm 101 = .ok (.ifCond .eq 14, 3) := by decide +kernel
theorem dX7_readsForm_104 : decode cX7_readsForm 104 = .ok (.aload_n 0, 1) := by decide +kernel
theorem dX7_readsForm_105 : decode cX7_readsForm 105 = .ok (.invokevirtual 166, 3) := by decide +kernel
theorem dX7_readsForm_108 : decode cX7_readsForm 108 = .ok (.ifCond .eq 7, 3) := by decide +kernel
theorem dX7_readsForm_111 : decode cX7_readsForm 111 = .ok (.iconst 1, 1) := by decide +kernel
theorem dX7_readsForm_112 : decode cX7_readsForm 112 = .ok (.goto 4, 3) := by decide +kernel
theorem dX7_readsForm_115 : decode cX7_readsForm 115 = .ok (.iconst 0, 1) := by decide +kernel
theorem dX7_readsForm_116 : decode cX7_readsForm 116 = .ok (.istore_n 2, 1) := by decide +kernel
theorem dX7_readsForm_117 : decode cX7_readsForm 117 = .ok (.iload_n 2, 1) := by decide +kernel
theorem dX7_readsForm_118 : decode cX7_readsForm 118 = .ok (.ifCond .eq 16, 3) := by decide +kernel
theorem dX7_readsForm_121 : decode cX7_readsForm 121 = .ok (.aload_n 0, 1) := by decide +kernel
theorem dX7_readsForm_122 : decode cX7_readsForm 122 = .ok (.invokevirtual 160, 3) := by decide +kernel
theorem dX7_readsForm_125 : decode cX7_readsForm 125 = .ok (.bipush 59, 2) := by decide +kernel
theorem dX7_readsForm_127 : decode cX7_readsForm 127 = .ok (.if_icmp .ne 7, 3) := by decide +kernel
theorem dX7_readsForm_130 : decode cX7_readsForm 130 = .ok (.iconst 1, 1) := by decide +kernel
theorem dX7_readsForm_131 : decode cX7_readsForm 131 = .ok (.goto 4, 3) := by decide +kernel
theorem dX7_readsForm_134 : decode cX7_readsForm 134 = .ok (.iconst 0, 1) := by decide +kernel
theorem dX7_readsForm_135 : decode cX7_readsForm 135 = .ok (.istore_n 2, 1) := by decide +kernel
theorem dX7_readsForm_136 : decode cX7_readsForm 136 = .ok (.aload_n 0, 1) := by decide +kernel
theorem dX7_readsForm_137 : decode cX7_readsForm 137 = .ok (.dup, 1) := by decide +kernel
theorem dX7_readsForm_138 : decode cX7_readsForm 138 = .ok (.getfield 157, 3) := by decide +kernel
theorem dX7_readsForm_141 : decode cX7_readsForm 141 = .ok (.iload_n 2, 1) := by decide +kernel
theorem dX7_readsForm_142 : decode cX7_readsForm 142 = .ok (.ifCond .eq 7, 3) := by decide +kernel
theorem dX7_readsForm_145 : decode cX7_readsForm 145 = .ok (.iconst 1, 1) := by decide +kernel
theorem dX7_readsForm_146 : decode cX7_readsForm 146 = .ok (.goto 4, 3) := by decide +kernel
theorem dX7_readsForm_149 : decode cX7_readsForm 149 = .ok (.iconst 0, 1) := by decide +kernel
theorem dX7_readsForm_150 : decode cX7_readsForm 150 = .ok (.iadd, 1) := by decide +kernel
theorem dX7_readsForm_151 : decode cX7_readsForm 151 = .ok (.putfield 157, 3) := by decide +kernel
theorem dX7_readsForm_154 : decode cX7_readsForm 154 = .ok (.iload_n 2, 1) := by decide +kernel
theorem dX7_readsForm_155 : decode cX7_readsForm 155 = .ok (.ireturn, 1) := by decide +kernel
theorem dX7_isInRange_0 : decode cX7_isInRange 0 = .ok (.iload_n 1, 1) := by decide +kernel
theorem dX7_isInRange_1 : decode cX7_isInRange 1 = .ok (.lookupswitch 78 #[(99, 43), (111, 43), (114, 65), (121, 54)], 43) := by decide +kernel
theorem dX7_isInRange_44 : decode cX7_isInRange 44 = .ok (.aload_n 0, 1) := by decide +kernel
theorem dX7_isInRange_45 : decode cX7_isInRange 45 = .ok (.aload_n 0, 1) := by decide +kernel
theorem dX7_isInRange_46 : decode cX7_isInRange 46 = .ok (.getfield 26, 3) := by decide +kernel
theorem dX7_isInRange_49 : decode cX7_isInRange 49 = .ok (.iconst 0, 1) := by decide +kernel
theorem dX7_isInRange_50 : decode cX7_isInRange 50 = .ok (.iaload, 1) := by decide +kernel
theorem dX7_isInRange_51 : decode cX7_isInRange 51 = .ok (.invokevirtual 57, 3) := by decide +kernel
theorem dX7_isInRange_54 : decode cX7_isInRange 54 = .ok (.ireturn, 1) := by decide +kernel
theorem dX7_isInRange_55 : decode cX7_isInRange 55 = .ok (.aload_n 0, 1) := by decide +kernel
theorem dX7_isInRange_56 : decode cX7_isInRange 56 = .ok (.aload_n 0, 1) := by decide +kernel
theorem dX7_isInRange_57 : decode cX7_isInRange 57 = .ok (.getfield 26, 3) := by decide +kernel
theorem dX7_isInRange_60 : decode cX7_isInRange 60 = .ok (.iconst 0, 1) := by decide +kernel
theorem dX7_isInRange_61 : decode cX7_isInRange 61 = .ok (.iaload, 1) := by decide +kernel
theorem dX7_isInRange_62 : decode cX7_isInRange 62 = .ok (.invokevirtual 71, 3) := by decide +kernel
theorem dX7_isInRange_65 : decode cX7_isInRange 65 = .ok (.ireturn, 1) := by decide +kernel
theorem dX7_isInRange_66 : decode cX7_isInRange 66 = .ok (.aload_n 0, 1) := by decide +kernel
theorem dX7_isInRange_67 : decode cX7_isInRange 67 = .ok (.getfield 26, 3) := by decide +kernel
theorem dX7_isInRange_70 : decode cX7_isInRange 70 = .ok (.iconst 0, 1) := by decide +kernel
theorem dX7_isInRange_71 : decode cX7_isInRange 71 = .ok (.iaload, 1) := by decide +kernel
theorem dX7_isInRange_72 : decode cX7_isInRange 72 = .ok (.iconst 1, 1) := by decide +kernel
theorem dX7_isInRange_73 : decode cX7_isInRange 73 = .ok (.bipush 10, 2) := by decide +kernel
theorem dX7_isInRange_75 : decode cX7_isInRange 75 = .ok (.invokestatic 29, 3) := by decide +kernel
theorem dX7_isInRange_78 : decode cX7_isInRange 78 = .ok (.ireturn, 1) := by decide +kernel
theorem dX7_isInRange_79 : decode cX7_isInRange 79 = .ok (.iconst 1, 1) := by decide +kernel
theorem dX7_isInRange_80 : decode cX7_isInRange 80 = .ok (.ireturn, 1) := by decide +kernel
theorem dX7_does_0 : decode cX7_does 0 = .ok (.iload_n 1, 1) := by decide +kernel
theorem dX7_does_1 : decode cX7_does 1 = .ok (.lookupswitch 89 #[(99, 55), (104, 78), (111, 43), (121, 67)], 43) := by decide +kernel
theorem dX7_does_44 : decode cX7_does 44 = .ok (.aload_n 0, 1) := by decide +kernel
theorem dX7_does_45 : decode cX7_does 45 = .ok (.aload_n 0, 1) := by decide +kernel
theorem dX7_does_46 : decode cX7_does 46 = .ok (.getfield 26, 3) := by decide +kernel
theorem dX7_does_49 : decode cX7_does 49 = .ok (.iconst 0, 1) := by decide +kernel
theorem dX7_does_50 : decode cX7_does 50 = .ok (.iaload, 1) := by decide +kernel
theorem dX7_does_51 : decode cX7_does 51 = .ok (.iconst 1, 1) := by decide +kernel
theorem dX7_does_52 : decode cX7_does 52 = .ok (.invokevirtual 68, 3) := by decide +kernel
theorem dX7_does_55 : decode cX7_does 55 = .ok (.ireturn, 1) := by decide +kernel
theorem dX7_does_56 : decode cX7_does 56 = .ok (.aload_n 0, 1) := by decide +kernel
theorem dX7_does_57 : decode cX7_does 57 = .ok (.aload_n 0, 1) := by decide +kernel
theorem dX7_does_58 : decode cX7_does 58 = .ok (.getfield 26, 3) := by decide +kernel
theorem dX7_does_61 : decode cX7_does 61 = .ok (.iconst 0, 1) := by decide +kernel
theorem dX7_does_62 : decode cX7_does 62 = .ok (.iaload, 1) := by decide +kernel
theorem dX7_does_63 : decode cX7_does 63 = .ok (.iconst 0, 1) := by decide +kernel
theorem dX7_does_64 : decode cX7_does 64 = .ok (.invokevirtual 68, 3) := by decide +kernel
theorem dX7_does_67 : decode cX7_does 67 = .ok (.ireturn, 1) := by decide +kernel
theorem dX7_does_68 : decode cX7_does 68 = .ok (.aload_n 0, 1) := by decide +kernel
theorem dX7_does_69 : decode cX7_does 69 = .ok (.aload_n 0, 1) := by decide +kernel
theorem dX7_does_70 : decode cX7_does 70 = .ok (.getfield 26, 3) := by decide +kernel
theorem dX7_does_73 : decode cX7_does 73 = .ok (.iconst 0, 1) := by decide +kernel
theorem dX7_does_74 : decode cX7_does 74 = .ok (.iaload, 1) := by decide +kernel
theorem dX7_does_75 : decode cX7_does 75 = .ok (.invokevirtual 83, 3) := by decide +kernel
theorem dX7_does_78 : decode cX7_does 78 = .ok (.ireturn, 1) := by decide +kernel
theorem dX7_does_79 : decode cX7_does 79 = .ok (.aload_n 0, 1) := by decide +kernel
theorem dX7_does_80 : decode cX7_does 80 = .ok (.aload_n 0, 1) := by decide +kernel
theorem dX7_does_81 : decode cX7_does 81 = .ok (.getfield 26, 3) := by decide +kernel
theorem dX7_does_84 : decode cX7_does 84 = .ok (.iconst 0, 1) := by decide +kernel
theorem dX7_does_85 : decode cX7_does 85 = .ok (.iaload, 1) := by decide +kernel
theorem dX7_does_86 : decode cX7_does 86 = .ok (.invokevirtual 115, 3) := by decide +kernel
theorem dX7_does_89 : decode cX7_does 89 = .ok (.ireturn, 1) := by decide +kernel
theorem dX7_does_90 : decode cX7_does 90 = .ok (.aload_n 0, 1) := by decide +kernel
theorem dX7_does_91 : decode cX7_does 91 = .ok (.aload_n 0, 1) := by decide +kernel
theorem dX7_does_92 : decode cX7_does 92 = .ok (.getfield 26, 3) := by decide +kernel
theorem dX7_does_95 : decode cX7_does 95 = .ok (.iconst 0, 1) := by decide +kernel
theorem dX7_does_96 : decode cX7_does 96 = .ok (.iaload, 1) := by decide +kernel
theorem dX7_does_97 : decode cX7_does 97 = .ok (.bipush 10, 2) := by decide +kernel
theorem dX7_does_99 : decode cX7_does 99 = .ok (.aload_n 0, 1) := by decide +kernel
theorem dX7_does_100 : decode cX7_does 100 = .ok (.getfield 26, 3) := by decide +kernel
theorem dX7_does_103 : decode cX7_does 103 = .ok (.iconst 1, 1) := by decide +kernel
theorem dX7_does_104 : decode cX7_does 104 = .ok (.iaload, 1) := by decide +kernel
theorem dX7_does_105 : decode cX7_does 105 = .ok (.invokevirtual 125, 3) := by decide +kernel
theorem dX7_does_108 : decode cX7_does 108 = .ok (.ireturn, 1) := by decide +kernel
theorem dX7_doesNext_0 : decode cX7_doesNext 0 = .ok (.aload_n 0, 1) := by decide +kernel
theorem dX7_doesNext_1 : decode cX7_doesNext 1 = .ok (.getfield 157, 3) := by decide +kernel
theorem dX7_doesNext_4 : decode cX7_doesNext 4 = .ok (.istore_n 1, 1) := by decide +kernel
theorem dX7_doesNext_5 : decode cX7_doesNext 5 = .ok (.aload_n 0, 1) := by decide +kernel
theorem dX7_doesNext_6 : decode cX7_doesNext 6 = .ok (.invokevirtual 160, 3) := by decide +kernel
theorem dX7_doesNext_9 : decode cX7_doesNext 9 = .ok (.istore_n 2, 1) := by decide +kernel
theorem dX7_doesNext_10 : decode cX7_doesNext 10 = .ok (.aload_n 0, 1) := by decide +kernel
theorem dX7_doesNext_11 : decode cX7_doesNext 11 = .ok (.invokevirtual 170, 3) := by decide +kernel
theorem dX7_doesNext_14 : decode cX7_doesNext 14 = .ok (.ifCond .ne 15, 3) := by decide +kernel
theorem dX7_doesNext_17 : decode cX7_doesNext 17 = .ok (.aload_n 0, 1) := by decide +kernel
theorem dX7_doesNext_18 : decode cX7_doesNext 18 = .ok (.aload_n 0, 1) := by decide +kernel
theorem dX7_doesNext_19 : decode cX7_doesNext 19 = .ok (.getfield 157, 3) := by decide +kernel
theorem dX7_doesNext_22 : decode cX7_doesNext 22 = .ok (.iload_n 1, 1) := by decide +kernel
theorem dX7_doesNext_23 : decode cX7_doesNext 23 = .ok (.isub, 1) := by decide +kernel
theorem dX7_doesNext_24 : decode cX7_doesNext 24 = .ok (.putfield 173, 3) := by decide +kernel
theorem dX7_doesNext_27 : decode cX7_doesNext 27 = .ok (.iconst 1, 1) := by decide +kernel
theorem dX7_doesNext_28 : decode cX7_doesNext 28 = .ok (.ireturn, 1) := by decide +kernel
theorem dX7_doesNext_29 : decode cX7_doesNext 29 = .ok (.aload_n 0, 1) := by decide +kernel
theorem dX7_doesNext_30 : decode cX7_doesNext 30 = .ok (.iload_n 2, 1) := by decide +kernel
theorem dX7_doesNext_31 : decode cX7_doesNext 31 = .ok (.invokevirtual 176, 3) := by decide +kernel
theorem dX7_doesNext_34 : decode cX7_doesNext 34 = .ok (.ifCond .ne 10, 3) := by decide +kernel
theorem dX7_doesNext_37 : decode cX7_doesNext 37 = .ok (.aload_n 0, 1) := by decide +kernel
theorem dX7_doesNext_38 : decode cX7_doesNext 38 = .ok (.iconst 0, 1) := by decide +kernel
theorem dX7_doesNext_39 : decode cX7_doesNext 39 = .ok (.putfield 173, 3) := by decide +kernel
theorem dX7_doesNext_42 : decode cX7_doesNext 42 = .ok (.iconst 2, 1) := by decide +kernel
theorem dX7_doesNext_43 : decode cX7_doesNext 43 = .ok (.ireturn, 1) := by decide +kernel
theorem dX7_doesNext_44 : decode cX7_doesNext 44 = .ok (.aload_n 0, 1) := by decide +kernel
theorem dX7_doesNext_45 : decode cX7_doesNext 45 = .ok (.ldc 129, 2) := by decide +kernel
theorem dX7_doesNext_47 : decode cX7_doesNext 47 = .ok (.putfield 173, 3) := by decide +kernel
theorem dX7_doesNext_50 : decode cX7_doesNext 50 = .ok (.aload_n 0, 1) := by decide +kernel
theorem dX7_doesNext_51 : decode cX7_doesNext 51 = .ok (.iload_n 2, 1) := by decide +kernel
theorem dX7_doesNext_52 : decode cX7_doesNext 52 = .ok (.invokevirtual 179, 3) := by decide +kernel
theorem dX7_doesNext_55 : decode cX7_doesNext 55 = .ok (.istore_n 3, 1) := by decide +kernel
theorem dX7_doesNext_56 : decode cX7_doesNext 56 = .ok (.aload_n 0, 1) := by decide +kernel
theorem dX7_doesNext_57 : decode cX7_doesNext 57 = .ok (.dup, 1) := by decide +kernel
theorem dX7_doesNext_58 : decode cX7_doesNext 58 = .ok (.getfield 182, 3) := by decide +kernel
theorem dX7_doesNext_61 : decode cX7_doesNext 61 = .ok (.iload_n 3, 1) := by decide +kernel
theorem dX7_doesNext_62 : decode cX7_doesNext 62 = .ok (.ldc 37, 2) := by decide +kernel
theorem dX7_doesNext_64 : decode cX7_doesNext 64 = .ok (.if_icmp .le 19, 3) := by decide +kernel
theorem dX7_doesNext_67 : decode cX7_doesNext 67 = .ok (.iload_n 2, 1) := by decide +kernel
theorem dX7_doesNext_68 : decode cX7_doesNext 68 = .ok (.bipush 104, 2) := by decide +kernel
theorem dX7_doesNext_70 : decode cX7_doesNext 70 = .ok (.if_icmp .eq 9, 3) := by decide +kernel
theorem dX7_doesNext_73 : decode cX7_doesNext 73 = .ok (.iload_n 2, 1) := by decide +kernel
theorem dX7_doesNext_74 : decode cX7_doesNext 74 = .ok (.bipush 114, 2) := by decide +kernel
theorem dX7_doesNext_76 : decode cX7_doesNext 76 = .ok (.if_icmp .ne 7, 3) := by decide +kernel
theorem dX7_doesNext_79 : decode cX7_doesNext 79 = .ok (.iload_n 3, 1) := by decide +kernel
theorem dX7_doesNext_80 : decode cX7_doesNext 80 = .ok (.goto 4, 3) := by decide +kernel
theorem dX7_doesNext_83 : decode cX7_doesNext 83 = .ok (.iconst 0, 1) := by decide +kernel
theorem dX7_doesNext_84 : decode cX7_doesNext 84 = .ok (.iadd, 1) := by decide +kernel
theorem dX7_doesNext_85 : decode cX7_doesNext 85 = .ok (.putfield 182, 3) := by decide +kernel
theorem dX7_doesNext_88 : decode cX7_doesNext 88 = .ok (.iload_n 3, 1) := by decide +kernel
theorem dX7_doesNext_89 : decode cX7_doesNext 89 = .ok (.ldc 37, 2) := by decide +kernel
theorem dX7_doesNext_91 : decode cX7_doesNext 91 = .ok (.if_icmp .le 7, 3) := by decide +kernel
theorem dX7_doesNext_94 : decode cX7_doesNext 94 = .ok (.iconst 0, 1) := by decide +kernel
theorem dX7_doesNext_95 : decode cX7_doesNext 95 = .ok (.goto 4, 3) := by decide +kernel
theorem dX7_doesNext_98 : decode cX7_doesNext 98 = .ok (.iconst 3, 1) := by decide +kernel
theorem dX7_doesNext_99 : decode cX7_doesNext 99 = .ok (.ireturn, 1) := by decide +kernel
theorem dX7_faulty_0 : decode cX7_faulty 0 = .ok (.aload_n 0, 1) := by decide +kernel
theorem dX7_faulty_1 : decode cX7_faulty 1 = .ok (.invokevirtual 139, 3) := by decide +kernel
theorem dX7_faulty_4 : decode cX7_faulty 4 = .ok (.ldc 129, 2) := by decide +kernel
theorem dX7_faulty_6 : decode cX7_faulty 6 = .ok (.istore_n 1, 1) := by decide +kernel
theorem dX7_faulty_7 : decode cX7_faulty 7 = .ok (.aload_n 0, 1) := by decide +kernel
theorem dX7_faulty_8 : decode cX7_faulty 8 = .ok (.iconst 0, 1) := by decide +kernel
theorem dX7_faulty_9 : decode cX7_faulty 9 = .ok (.putfield 157, 3) := by decide +kernel
theorem dX7_faulty_12 : decode cX7_faulty 12 = .ok (.aload_n 0, 1) := by decide +kernel
theorem dX7_faulty_13 : decode cX7_faulty 13 = .ok (.getfield 157, 3) := by decide +kernel
theorem dX7_faulty_16 : decode cX7_faulty 16 = .ok (.aload_n 0, 1) := by decide +kernel
theorem dX7_faulty_17 : decode cX7_faulty 17 = .ok (.getfield 154, 3) := by decide +kernel
theorem dX7_faulty_20 : decode cX7_faulty 20 = .ok (.if_icmp .ge 38, 3) := by decide +kernel
theorem dX7_faulty_23 : decode cX7_faulty 23 = .ok (.iload_n 1, 1) := by decide +kernel
theorem dX7_faulty_24 : decode cX7_faulty 24 = .ok (.ldc 129, 2) := by decide +kernel
theorem dX7_faulty_26 : decode cX7_faulty 26 = .ok (.if_icmp .ne 32, 3) := by decide +kernel
theorem dX7_faulty_29 : decode cX7_faulty 29 = .ok (.aload_n 0, 1) := by decide +kernel
theorem dX7_faulty_30 : decode cX7_faulty 30 = .ok (.getfield 157, 3) := by decide +kernel
theorem dX7_faulty_33 : decode cX7_faulty 33 = .ok (.istore_n 2, 1) := by decide +kernel
theorem dX7_faulty_34 : decode cX7_faulty 34 = .ok (.aload_n 0, 1) := by decide +kernel
theorem dX7_faulty_35 : decode cX7_faulty 35 = .ok (.aload_n 0, 1) := by decide +kernel
theorem dX7_faulty_36 : decode cX7_faulty 36 = .ok (.invokevirtual 185, 3) := by decide +kernel
theorem dX7_faulty_39 : decode cX7_faulty 39 = .ok (.putfield 188, 3) := by decide +kernel
theorem dX7_faulty_42 : decode cX7_faulty 42 = .ok (.aload_n 0, 1) := by decide +kernel
theorem dX7_faulty_43 : decode cX7_faulty 43 = .ok (.getfield 188, 3) := by decide +kernel
theorem dX7_faulty_46 : decode cX7_faulty 46 = .ok (.ifCond .le 7, 3) := by decide +kernel
theorem dX7_faulty_49 : decode cX7_faulty 49 = .ok (.iload_n 2, 1) := by decide +kernel
theorem dX7_faulty_50 : decode cX7_faulty 50 = .ok (.goto 4, 3) := by decide +kernel
theorem dX7_faulty_53 : decode cX7_faulty 53 = .ok (.iload_n 1, 1) := by decide +kernel
theorem dX7_faulty_54 : decode cX7_faulty 54 = .ok (.istore_n 1, 1) := by decide +kernel
theorem dX7_faulty_55 : decode cX7_faulty 55 = .ok (.goto (-43), 3) := by decide +kernel
theorem dX7_faulty_58 : decode cX7_faulty 58 = .ok (.aload_n 0, 1) := by decide +kernel
theorem dX7_faulty_59 : decode cX7_faulty 59 = .ok (.invokevirtual 142, 3) := by decide +kernel
theorem dX7_faulty_62 : decode cX7_faulty 62 = .ok (.iload_n 1, 1) := by decide +kernel
theorem dX7_faulty_63 : decode cX7_faulty 63 = .ok (.ireturn, 1) := by decide +kernel
theorem dX7_fault_0 : decode cX7_fault 0 = .ok (.iload_n 1, 1) := by decide +kernel
theorem dX7_fault_1 : decode cX7_fault 1 = .ok (.iconst 0, 1) := by decide +kernel
theorem dX7_fault_2 : decode cX7_fault 2 = .ok (.iconst 2, 1) := by decide +kernel
theorem dX7_fault_3 : decode cX7_fault 3 = .ok (.invokestatic 29, 3) := by decide +kernel
theorem dX7_fault_6 : decode cX7_fault 6 = .ok (.ifCond .ne 6, 3) := by decide +kernel
theorem dX7_fault_9 : decode cX7_fault 9 = .ok (.ldc 37, 2) := by decide +kernel
theorem dX7_fault_11 : decode cX7_fault 11 = .ok (.ireturn, 1) := by decide +kernel
theorem dX7_fault_12 : decode cX7_fault 12 = .ok (.aload_n 0, 1) := by decide +kernel
theorem dX7_fault_13 : decode cX7_fault 13 = .ok (.invokevirtual 191, 3) := by decide +kernel
theorem dX7_fault_16 : decode cX7_fault 16 = .ok (.istore_n 2, 1) := by decide +kernel
theorem dX7_fault_17 : decode cX7_fault 17 = .ok (.iload_n 2, 1) := by decide +kernel
theorem dX7_fault_18 : decode cX7_fault 18 = .ok (.ldc 129, 2) := by decide +kernel
theorem dX7_fault_20 : decode cX7_fault 20 = .ok (.if_icmp .eq 7, 3) := by decide +kernel
theorem dX7_fault_23 : decode cX7_fault 23 = .ok (.iload_n 1, 1) := by decide +kernel
theorem dX7_fault_24 : decode cX7_fault 24 = .ok (.ifCond .ne 7, 3) := by decide +kernel
theorem dX7_fault_27 : decode cX7_fault 27 = .ok (.iload_n 2, 1) := by decide +kernel
theorem dX7_fault_28 : decode cX7_fault 28 = .ok (.goto 19, 3) := by decide +kernel
theorem dX7_fault_31 : decode cX7_fault 31 = .ok (.iload_n 1, 1) := by decide +kernel
theorem dX7_fault_32 : decode cX7_fault 32 = .ok (.iconst 1, 1) := by decide +kernel
theorem dX7_fault_33 : decode cX7_fault 33 = .ok (.if_icmp .ne 10, 3) := by decide +kernel
theorem dX7_fault_36 : decode cX7_fault 36 = .ok (.aload_n 0, 1) := by decide +kernel
theorem dX7_fault_37 : decode cX7_fault 37 = .ok (.getfield 188, 3) := by decide +kernel
theorem dX7_fault_40 : decode cX7_fault 40 = .ok (.goto 7, 3) := by decide +kernel
theorem dX7_fault_43 : decode cX7_fault 43 = .ok (.aload_n 0, 1) := by decide +kernel
theorem dX7_fault_44 : decode cX7_fault 44 = .ok (.getfield 173, 3) := by decide +kernel
theorem dX7_fault_47 : decode cX7_fault 47 = .ok (.ireturn, 1) := by decide +kernel
theorem dX7_play_0 : decode cX7_play 0 = .ok (.aload_n 0, 1) := by decide +kernel
theorem dX7_play_1 : decode cX7_play 1 = .ok (.invokevirtual 191, 3) := by decide +kernel
theorem dX7_play_4 : decode cX7_play 4 = .ok (.ldc 129, 2) := by decide +kernel
theorem dX7_play_6 : decode cX7_play 6 = .ok (.if_icmp .eq 6, 3) := by decide +kernel
theorem dX7_play_9 : decode cX7_play 9 = .ok (.ldc 60, 2) := by decide +kernel
theorem dX7_play_11 : decode cX7_play 11 = .ok (.ireturn, 1) := by decide +kernel
theorem dX7_play_12 : decode cX7_play 12 = .ok (.aload_n 0, 1) := by decide +kernel
theorem dX7_play_13 : decode cX7_play 13 = .ok (.invokevirtual 47, 3) := by decide +kernel
theorem dX7_play_16 : decode cX7_play 16 = .ok (.aload_n 0, 1) := by decide +kernel
theorem dX7_play_17 : decode cX7_play 17 = .ok (.iconst 0, 1) := by decide +kernel
theorem dX7_play_18 : decode cX7_play 18 = .ok (.putfield 182, 3) := by decide +kernel
theorem dX7_play_21 : decode cX7_play 21 = .ok (.aload_n 0, 1) := by decide +kernel
theorem dX7_play_22 : decode cX7_play 22 = .ok (.iconst 0, 1) := by decide +kernel
theorem dX7_play_23 : decode cX7_play 23 = .ok (.putfield 157, 3) := by decide +kernel
theorem dX7_play_26 : decode cX7_play 26 = .ok (.aload_n 0, 1) := by decide +kernel
theorem dX7_play_27 : decode cX7_play 27 = .ok (.getfield 157, 3) := by decide +kernel
theorem dX7_play_30 : decode cX7_play 30 = .ok (.aload_n 0, 1) := by decide +kernel
theorem dX7_play_31 : decode cX7_play 31 = .ok (.getfield 154, 3) := by decide +kernel
theorem dX7_play_34 : decode cX7_play 34 = .ok (.if_icmp .ge 11, 3) := by decide +kernel
theorem dX7_play_37 : decode cX7_play 37 = .ok (.aload_n 0, 1) := by decide +kernel
theorem dX7_play_38 : decode cX7_play 38 = .ok (.invokevirtual 185, 3) := by decide +kernel
theorem dX7_play_41 : decode cX7_play 41 = .ok (.pop, 1) := by decide +kernel
theorem dX7_play_42 : decode cX7_play 42 = .ok (.goto (-16), 3) := by decide +kernel
theorem dX7_play_45 : decode cX7_play 45 = .ok (.aload_n 0, 1) := by decide +kernel
theorem dX7_play_46 : decode cX7_play 46 = .ok (.aload_n 0, 1) := by decide +kernel
theorem dX7_play_47 : decode cX7_play 47 = .ok (.getfield 182, 3) := by decide +kernel
theorem dX7_play_50 : decode cX7_play 50 = .ok (.invokevirtual 50, 3) := by decide +kernel
theorem dX7_play_53 : decode cX7_play 53 = .ok (.ireturn, 1) := by decide +kernel
theorem dJxf58ca_isNaN_12338_0 : decode cJxf58ca_isNaN_12338 0 = .ok (.fload_n 0, 1) := by decide +kernel
theorem dJxf58ca_isNaN_12338_1 : decode cJxf58ca_isNaN_12338 1 = .ok (.fload_n 0, 1) := by decide +kernel
theorem dJxf58ca_isNaN_12338_2 : decode cJxf58ca_isNaN_12338 2 = .ok (.fcmp .l, 1) := by decide +kernel
theorem dJxf58ca_isNaN_12338_3 : decode cJxf58ca_isNaN_12338 3 = .ok (.ifCond .eq 7, 3) := by decide +kernel
theorem dJxf58ca_isNaN_12338_6 : decode cJxf58ca_isNaN_12338 6 = .ok (.iconst 1, 1) := by decide +kernel
theorem dJxf58ca_isNaN_12338_7 : decode cJxf58ca_isNaN_12338 7 = .ok (.goto 4, 3) := by decide +kernel
theorem dJxf58ca_isNaN_12338_10 : decode cJxf58ca_isNaN_12338 10 = .ok (.iconst 0, 1) := by decide +kernel
theorem dJxf58ca_isNaN_12338_11 : decode cJxf58ca_isNaN_12338 11 = .ok (.ireturn, 1) := by decide +kernel
theorem dJxf58ca_floatToIntBits_5c35a_0 : decode cJxf58ca_floatToIntBits_5c35a 0 = .ok (.fload_n 0, 1) := by decide +kernel
theorem dJxf58ca_floatToIntBits_5c35a_1 : decode cJxf58ca_floatToIntBits_5c35a 1 = .ok (.invokestatic 59, 3) := by decide +kernel
theorem dJxf58ca_floatToIntBits_5c35a_4 : decode cJxf58ca_floatToIntBits_5c35a 4 = .ok (.ifCond .ne 8, 3) := by decide +kernel
theorem dJxf58ca_floatToIntBits_5c35a_7 : decode cJxf58ca_floatToIntBits_5c35a 7 = .ok (.fload_n 0, 1) := by decide +kernel
theorem dJxf58ca_floatToIntBits_5c35a_8 : decode cJxf58ca_floatToIntBits_5c35a 8 = .ok (.invokestatic 74, 3) := by decide +kernel
theorem dJxf58ca_floatToIntBits_5c35a_11 : decode cJxf58ca_floatToIntBits_5c35a 11 = .ok (.ireturn, 1) := by decide +kernel
theorem dJxf58ca_floatToIntBits_5c35a_12 : decode cJxf58ca_floatToIntBits_5c35a 12 = .ok (.ldc 77, 2) := by decide +kernel
theorem dJxf58ca_floatToIntBits_5c35a_14 : decode cJxf58ca_floatToIntBits_5c35a 14 = .ok (.ireturn, 1) := by decide +kernel
theorem dJ6_bitCount_0f7a4_0 : decode cJ6_bitCount_0f7a4 0 = .ok (.iload_n 0, 1) := by decide +kernel
theorem dJ6_bitCount_0f7a4_1 : decode cJ6_bitCount_0f7a4 1 = .ok (.iload_n 0, 1) := by decide +kernel
theorem dJ6_bitCount_0f7a4_2 : decode cJ6_bitCount_0f7a4 2 = .ok (.iconst 1, 1) := by decide +kernel
theorem dJ6_bitCount_0f7a4_3 : decode cJ6_bitCount_0f7a4 3 = .ok (.iushr, 1) := by decide +kernel
theorem dJ6_bitCount_0f7a4_4 : decode cJ6_bitCount_0f7a4 4 = .ok (.ldc_w 265, 3) := by decide +kernel
theorem dJ6_bitCount_0f7a4_7 : decode cJ6_bitCount_0f7a4 7 = .ok (.iand, 1) := by decide +kernel
theorem dJ6_bitCount_0f7a4_8 : decode cJ6_bitCount_0f7a4 8 = .ok (.isub, 1) := by decide +kernel
theorem dJ6_bitCount_0f7a4_9 : decode cJ6_bitCount_0f7a4 9 = .ok (.istore_n 0, 1) := by decide +kernel
theorem dJ6_bitCount_0f7a4_10 : decode cJ6_bitCount_0f7a4 10 = .ok (.iload_n 0, 1) := by decide +kernel
theorem dJ6_bitCount_0f7a4_11 : decode cJ6_bitCount_0f7a4 11 = .ok (.ldc_w 266, 3) := by decide +kernel
theorem dJ6_bitCount_0f7a4_14 : decode cJ6_bitCount_0f7a4 14 = .ok (.iand, 1) := by decide +kernel
theorem dJ6_bitCount_0f7a4_15 : decode cJ6_bitCount_0f7a4 15 = .ok (.iload_n 0, 1) := by decide +kernel
theorem dJ6_bitCount_0f7a4_16 : decode cJ6_bitCount_0f7a4 16 = .ok (.iconst 2, 1) := by decide +kernel
theorem dJ6_bitCount_0f7a4_17 : decode cJ6_bitCount_0f7a4 17 = .ok (.iushr, 1) := by decide +kernel
theorem dJ6_bitCount_0f7a4_18 : decode cJ6_bitCount_0f7a4 18 = .ok (.ldc_w 266, 3) := by decide +kernel
theorem dJ6_bitCount_0f7a4_21 : decode cJ6_bitCount_0f7a4 21 = .ok (.iand, 1) := by decide +kernel
theorem dJ6_bitCount_0f7a4_22 : decode cJ6_bitCount_0f7a4 22 = .ok (.iadd, 1) := by decide +kernel
theorem dJ6_bitCount_0f7a4_23 : decode cJ6_bitCount_0f7a4 23 = .ok (.istore_n 0, 1) := by decide +kernel
theorem dJ6_bitCount_0f7a4_24 : decode cJ6_bitCount_0f7a4 24 = .ok (.iload_n 0, 1) := by decide +kernel
theorem dJ6_bitCount_0f7a4_25 : decode cJ6_bitCount_0f7a4 25 = .ok (.iload_n 0, 1) := by decide +kernel
theorem dJ6_bitCount_0f7a4_26 : decode cJ6_bitCount_0f7a4 26 = .ok (.iconst 4, 1) := by decide +kernel
theorem dJ6_bitCount_0f7a4_27 : decode cJ6_bitCount_0f7a4 27 = .ok (.iushr, 1) := by decide +kernel
theorem dJ6_bitCount_0f7a4_28 : decode cJ6_bitCount_0f7a4 28 = .ok (.iadd, 1) := by decide +kernel
theorem dJ6_bitCount_0f7a4_29 : decode cJ6_bitCount_0f7a4 29 = .ok (.ldc_w 267, 3) := by decide +kernel
theorem dJ6_bitCount_0f7a4_32 : decode cJ6_bitCount_0f7a4 32 = .ok (.iand, 1) := by decide +kernel
theorem dJ6_bitCount_0f7a4_33 : decode cJ6_bitCount_0f7a4 33 = .ok (.istore_n 0, 1) := by decide +kernel
theorem dJ6_bitCount_0f7a4_34 : decode cJ6_bitCount_0f7a4 34 = .ok (.iload_n 0, 1) := by decide +kernel
theorem dJ6_bitCount_0f7a4_35 : decode cJ6_bitCount_0f7a4 35 = .ok (.iload_n 0, 1) := by decide +kernel
theorem dJ6_bitCount_0f7a4_36 : decode cJ6_bitCount_0f7a4 36 = .ok (.bipush 8, 2) := by decide +kernel
theorem dJ6_bitCount_0f7a4_38 : decode cJ6_bitCount_0f7a4 38 = .ok (.iushr, 1) := by decide +kernel
theorem dJ6_bitCount_0f7a4_39 : decode cJ6_bitCount_0f7a4 39 = .ok (.iadd, 1) := by decide +kernel
theorem dJ6_bitCount_0f7a4_40 : decode cJ6_bitCount_0f7a4 40 = .ok (.istore_n 0, 1) := by decide +kernel
theorem dJ6_bitCount_0f7a4_41 : decode cJ6_bitCount_0f7a4 41 = .ok (.iload_n 0, 1) := by decide +kernel
theorem dJ6_bitCount_0f7a4_42 : decode cJ6_bitCount_0f7a4 42 = .ok (.iload_n 0, 1) := by decide +kernel
theorem dJ6_bitCount_0f7a4_43 : decode cJ6_bitCount_0f7a4 43 = .ok (.bipush 16, 2) := by decide +kernel
theorem dJ6_bitCount_0f7a4_45 : decode cJ6_bitCount_0f7a4 45 = .ok (.iushr, 1) := by decide +kernel
theorem dJ6_bitCount_0f7a4_46 : decode cJ6_bitCount_0f7a4 46 = .ok (.iadd, 1) := by decide +kernel
theorem dJ6_bitCount_0f7a4_47 : decode cJ6_bitCount_0f7a4 47 = .ok (.istore_n 0, 1) := by decide +kernel
theorem dJ6_bitCount_0f7a4_48 : decode cJ6_bitCount_0f7a4 48 = .ok (.iload_n 0, 1) := by decide +kernel
theorem dJ6_bitCount_0f7a4_49 : decode cJ6_bitCount_0f7a4 49 = .ok (.bipush 63, 2) := by decide +kernel
theorem dJ6_bitCount_0f7a4_51 : decode cJ6_bitCount_0f7a4 51 = .ok (.iand, 1) := by decide +kernel
theorem dJ6_bitCount_0f7a4_52 : decode cJ6_bitCount_0f7a4 52 = .ok (.ireturn, 1) := by decide +kernel
theorem dJ9_max_7cf53_0 : decode cJ9_max_7cf53 0 = .ok (.iload_n 0, 1) := by decide +kernel
theorem dJ9_max_7cf53_1 : decode cJ9_max_7cf53 1 = .ok (.iload_n 1, 1) := by decide +kernel
theorem dJ9_max_7cf53_2 : decode cJ9_max_7cf53 2 = .ok (.if_icmp .lt 7, 3) := by decide +kernel
theorem dJ9_max_7cf53_5 : decode cJ9_max_7cf53 5 = .ok (.iload_n 0, 1) := by decide +kernel
theorem dJ9_max_7cf53_6 : decode cJ9_max_7cf53 6 = .ok (.goto 4, 3) := by decide +kernel
theorem dJ9_max_7cf53_9 : decode cJ9_max_7cf53 9 = .ok (.iload_n 1, 1) := by decide +kernel
theorem dJ9_max_7cf53_10 : decode cJ9_max_7cf53 10 = .ok (.ireturn, 1) := by decide +kernel
theorem dJ9_min_7cf53_0 : decode cJ9_min_7cf53 0 = .ok (.iload_n 0, 1) := by decide +kernel
theorem dJ9_min_7cf53_1 : decode cJ9_min_7cf53 1 = .ok (.iload_n 1, 1) := by decide +kernel
theorem dJ9_min_7cf53_2 : decode cJ9_min_7cf53 2 = .ok (.if_icmp .gt 7, 3) := by decide +kernel
theorem dJ9_min_7cf53_5 : decode cJ9_min_7cf53 5 = .ok (.iload_n 0, 1) := by decide +kernel
theorem dJ9_min_7cf53_6 : decode cJ9_min_7cf53 6 = .ok (.goto 4, 3) := by decide +kernel
theorem dJ9_min_7cf53_9 : decode cJ9_min_7cf53 9 = .ok (.iload_n 1, 1) := by decide +kernel
theorem dJ9_min_7cf53_10 : decode cJ9_min_7cf53 10 = .ok (.ireturn, 1) := by decide +kernel
theorem dJ7_fill_53178_0 : decode cJ7_fill_53178 0 = .ok (.iconst 0, 1) := by decide +kernel
theorem dJ7_fill_53178_1 : decode cJ7_fill_53178 1 = .ok (.istore_n 2, 1) := by decide +kernel
theorem dJ7_fill_53178_2 : decode cJ7_fill_53178 2 = .ok (.aload_n 0, 1) := by decide +kernel
theorem dJ7_fill_53178_3 : decode cJ7_fill_53178 3 = .ok (.arraylength, 1) := by decide +kernel
theorem dJ7_fill_53178_4 : decode cJ7_fill_53178 4 = .ok (.istore_n 3, 1) := by decide +kernel
theorem dJ7_fill_53178_5 : decode cJ7_fill_53178 5 = .ok (.iload_n 2, 1) := by decide +kernel
theorem dJ7_fill_53178_6 : decode cJ7_fill_53178 6 = .ok (.iload_n 3, 1) := by decide +kernel
theorem dJ7_fill_53178_7 : decode cJ7_fill_53178 7 = .ok (.if_icmp .ge 13, 3) := by decide +kernel
theorem dJ7_fill_53178_10 : decode cJ7_fill_53178 10 = .ok (.aload_n 0, 1) := by decide +kernel
theorem dJ7_fill_53178_11 : decode cJ7_fill_53178 11 = .ok (.iload_n 2, 1) := by decide +kernel
theorem dJ7_fill_53178_12 : decode cJ7_fill_53178 12 = .ok (.iload_n 1, 1) := by decide +kernel
theorem dJ7_fill_53178_13 : decode cJ7_fill_53178 13 = .ok (.iastore, 1) := by decide +kernel
theorem dJ7_fill_53178_14 : decode cJ7_fill_53178 14 = .ok (.iinc 2 1, 3) := by decide +kernel
theorem dJ7_fill_53178_17 : decode cJ7_fill_53178 17 = .ok (.goto (-12), 3) := by decide +kernel
theorem dJ7_fill_53178_20 : decode cJ7_fill_53178 20 = .ok (.return_, 1) := by decide +kernel
