theorem dX0_init_0 : decode cX0_init 0 = .ok (.aload_n 0, 1) := by decide +kernel
theorem dX0_init_1 : decode cX0_init 1 = .ok (.invokespecial 3, 3) := by decide +kernel
theorem dX0_init_4 : decode cX0_init 4 = .ok (.aload_n 0, 1) := by decide +kernel
theorem dX0_init_5 : decode cX0_init 5 = .ok (.iconst 1, 1) := by decide +kernel
theorem dX0_init_6 : decode cX0_init 6 = .ok (.putfield 9, 3) := by decide +kernel
theorem dX0_init_9 : decode cX0_init 9 = .ok (.aload_n 0, 1) := by decide +kernel
theorem dX0_init_10 : decode cX0_init 10 = .ok (.bipush 8, 2) := by decide +kernel
theorem dX0_init_12 : decode cX0_init 12 = .ok (.newarray .int, 2) := by decide +kernel
theorem dX0_init_14 : decode cX0_init 14 = .ok (.putfield 15, 3) := by decide +kernel
theorem dX0_init_17 : decode cX0_init 17 = .ok (.aload_n 0, 1) := by decide +kernel
theorem dX0_init_18 : decode cX0_init 18 = .ok (.bipush 8, 2) := by decide +kernel
theorem dX0_init_20 : decode cX0_init 20 = .ok (.newarray .int, 2) := by decide +kernel
theorem dX0_init_22 : decode cX0_init 22 = .ok (.putfield 19, 3) := by decide +kernel
theorem dX0_init_25 : decode cX0_init 25 = .ok (.aload_n 0, 1) := by decide +kernel
theorem dX0_init_26 : decode cX0_init 26 = .ok (.bipush 8, 2) := by decide +kernel
theorem dX0_init_28 : decode cX0_init 28 = .ok (.newarray .int, 2) := by decide +kernel
theorem dX0_init_30 : decode cX0_init 30 = .ok (.putfield 22, 3) := by decide +kernel
theorem dX0_init_33 : decode cX0_init 33 = .ok (.aload_n 0, 1) := by decide +kernel
theorem dX0_init_34 : decode cX0_init 34 = .ok (.bipush 8, 2) := by decide +kernel
theorem dX0_init_36 : decode cX0_init 36 = .ok (.newarray .int, 2) := by decide +kernel
theorem dX0_init_38 : decode cX0_init 38 = .ok (.putfield 25, 3) := by decide +kernel
theorem dX0_init_41 : decode cX0_init 41 = .ok (.aload_n 0, 1) := by decide +kernel
theorem dX0_init_42 : decode cX0_init 42 = .ok (.bipush 8, 2) := by decide +kernel
theorem dX0_init_44 : decode cX0_init 44 = .ok (.newarray .int, 2) := by decide +kernel
theorem dX0_init_46 : decode cX0_init 46 = .ok (.putfield 28, 3) := by decide +kernel
theorem dX0_init_49 : decode cX0_init 49 = .ok (.aload_n 0, 1) := by decide +kernel
theorem dX0_init_50 : decode cX0_init 50 = .ok (.bipush 8, 2) := by decide +kernel
theorem dX0_init_52 : decode cX0_init 52 = .ok (.newarray .int, 2) := by decide +kernel
theorem dX0_init_54 : decode cX0_init 54 = .ok (.putfield 31, 3) := by decide +kernel
theorem dX0_init_57 : decode cX0_init 57 = .ok (.aload_n 0, 1) := by decide +kernel
theorem dX0_init_58 : decode cX0_init 58 = .ok (.bipush 8, 2) := by decide +kernel
theorem dX0_init_60 : decode cX0_init 60 = .ok (.newarray .int, 2) := by decide +kernel
theorem dX0_init_62 : decode cX0_init 62 = .ok (.putfield 34, 3) := by decide +kernel
theorem dX0_init_65 : decode cX0_init 65 = .ok (.aload_n 0, 1) := by decide +kernel
theorem dX0_init_66 : decode cX0_init 66 = .ok (.bipush 8, 2) := by decide +kernel
theorem dX0_init_68 : decode cX0_init 68 = .ok (.newarray .int, 2) := by decide +kernel
theorem dX0_init_70 : decode cX0_init 70 = .ok (.putfield 37, 3) := by decide +kernel
theorem dX0_init_73 : decode cX0_init 73 = .ok (.aload_n 0, 1) := by decide +kernel
theorem dX0_init_74 : decode cX0_init 74 = .ok (.getfield 22, 3) := by decide +kernel
theorem dX0_init_77 : decode cX0_init 77 = .ok (.iconst 0, 1) := by decide +kernel
theorem dX0_init_78 : decode cX0_init 78 = .ok (.sipush 200, 3) := by decide +kernel
theorem dX0_init_81 : decode cX0_init 81 = .ok (.iastore, 1) := by decide +kernel
theorem dX0_init_82 : decode cX0_init 82 = .ok (.aload_n 0, 1) := by decide +kernel
theorem dX0_init_83 : decode cX0_init 83 = .ok (.getfield 25, 3) := by decide +kernel
theorem dX0_init_86 : decode cX0_init 86 = .ok (.iconst 0, 1) := by decide +kernel
theorem dX0_init_87 : decode cX0_init 87 = .ok (.bipush 50, 2) := by decide +kernel
theorem dX0_init_89 : decode cX0_init 89 = .ok (.iastore, 1) := by decide +kernel
theorem dX0_init_90 : decode cX0_init 90 = .ok (.iconst 0, 1) := by decide +kernel
theorem dX0_init_91 : decode cX0_init 91 = .ok (.istore_n 1, 1) := by decide +kernel
theorem dX0_init_92 : decode cX0_init 92 = .ok (.iload_n 1, 1) := by decide +kernel
theorem dX0_init_93 : decode cX0_init 93 = .ok (.bipush 8, 2) := by decide +kernel
theorem dX0_init_95 : decode cX0_init 95 = .ok (.if_icmp .ge 16, 3) := by decide +kernel
theorem dX0_init_98 : decode cX0_init 98 = .ok (.aload_n 0, 1) := by decide +kernel
theorem dX0_init_99 : decode cX0_init 99 = .ok (.getfield 28, 3) := by decide +kernel
theorem dX0_init_102 : decode cX0_init 102 = .ok (.iload_n 1, 1) := by decide +kernel
theorem dX0_init_103 : decode cX0_init 103 = .ok (.iconst (-1), 1) := by decide +kernel
theorem dX0_init_104 : decode cX0_init 104 = .ok (.iastore, 1) := by decide +kernel
theorem dX0_init_105 : decode cX0_init 105 = .ok (.iinc 1 1, 3) := by decide +kernel
theorem dX0_init_108 : decode cX0_init 108 = .ok (.goto (-16), 3) := by decide +kernel
theorem dX0_init_111 : decode cX0_init 111 = .ok (.return_, 1) := by decide +kernel
theorem dX0_become_0 : decode cX0_become 0 = .ok (.aload_n 0, 1) := by decide +kernel
theorem dX0_become_1 : decode cX0_become 1 = .ok (.aload_n 1, 1) := by decide +kernel
theorem dX0_become_2 : decode cX0_become 2 = .ok (.getfield 9, 3) := by decide +kernel
theorem dX0_become_5 : decode cX0_become 5 = .ok (.putfield 9, 3) := by decide +kernel
theorem dX0_become_8 : decode cX0_become 8 = .ok (.aload_n 0, 1) := by decide +kernel
theorem dX0_become_9 : decode cX0_become 9 = .ok (.aload_n 1, 1) := by decide +kernel
theorem dX0_become_10 : decode cX0_become 10 = .ok (.getfield 40, 3) := by decide +kernel
theorem dX0_become_13 : decode cX0_become 13 = .ok (.putfield 40, 3) := by decide +kernel
theorem dX0_become_16 : decode cX0_become 16 = .ok (.aload_n 1, 1) := by decide +kernel
theorem dX0_become_17 : decode cX0_become 17 = .ok (.getfield 15, 3) := by decide +kernel
theorem dX0_become_20 : decode cX0_become 20 = .ok (.iconst 0, 1) := by decide +kernel
theorem dX0_become_21 : decode cX0_become 21 = .ok (.aload_n 0, 1) := by decide +kernel
theorem dX0_become_22 : decode cX0_become 22 = .ok (.getfield 15, 3) := by decide +kernel
theorem dX0_become_25 : decode cX0_become 25 = .ok (.iconst 0, 1) := by decide +kernel
theorem dX0_become_26 : decode cX0_become 26 = .ok (.bipush 8, 2) := by decide +kernel
theorem dX0_become_28 : decode cX0_become 28 = .ok (.invokestatic 43, 3) := by decide +kernel
theorem dX0_become_31 : decode cX0_become 31 = .ok (.aload_n 1, 1) := by decide +kernel
theorem dX0_become_32 : decode cX0_become 32 = .ok (.getfield 19, 3) := by decide +kernel
theorem dX0_become_35 : decode cX0_become 35 = .ok (.iconst 0, 1) := by decide +kernel
theorem dX0_become_36 : decode cX0_become 36 = .ok (.aload_n 0, 1) := by decide +kernel
theorem dX0_become_37 : decode cX0_become 37 = .ok (.getfield 19, 3) := by decide +kernel
theorem dX0_become_40 : decode cX0_become 40 = .ok (.iconst 0, 1) := by decide +kernel
theorem dX0_become_41 : decode cX0_become 41 = .ok (.bipush 8, 2) := by decide +kernel
theorem dX0_become_43 : decode cX0_become 43 = .ok (.invokestatic 43, 3) := by decide +kernel
theorem dX0_become_46 : decode cX0_become 46 = .ok (.aload_n 1, 1) := by decide +kernel
theorem dX0_become_47 : decode cX0_become 47 = .ok (.getfield 22, 3) := by decide +kernel
theorem dX0_become_50 : decode cX0_become 50 = .ok (.iconst 0, 1) := by decide +kernel
theorem dX0_become_51 : decode cX0_become 51 = .ok (.aload_n 0, 1) := by decide +kernel
theorem dX0_become_52 : decode cX0_become 52 = .ok (.getfield 22, 3) := by decide +kernel
theorem dX0_become_55 : decode cX0_become 55 = .ok (.iconst 0, 1) := by decide +kernel
theorem dX0_become_56 : decode cX0_become 56 = .ok (.bipush 8, 2) := by decide +kernel
theorem dX0_become_58 : decode cX0_become 58 = .ok (.invokestatic 43, 3) := by decide +kernel
theorem dX0_become_61 : decode cX0_become 61 = .ok (.aload_n 1, 1) := by decide +kernel
theorem dX0_become_62 : decode cX0_become 62 = .ok (.getfield 25, 3) := by decide +kernel
theorem dX0_become_65 : decode cX0_become 65 = .ok (.iconst 0, 1) := by decide +kernel
theorem dX0_become_66 : decode cX0_become 66 = .ok (.aload_n 0, 1) := by decide +kernel
theorem dX0_become_67 : decode cX0_become 67 = .ok (.getfield 25, 3) := by decide +kernel
theorem dX0_become_70 : decode cX0_become 70 = .ok (.iconst 0, 1) := by decide +kernel
theorem dX0_become_71 : decode cX0_become 71 = .ok (.bipush 8, 2) := by decide +kernel
theorem dX0_become_73 : decode cX0_become 73 = .ok (.invokestatic 43, 3) := by decide +kernel
theorem dX0_become_76 : decode cX0_become 76 = .ok (.aload_n 1, 1) := by decide +kernel
theorem dX0_become_77 : decode cX0_become 77 = .ok (.getfield 28, 3) := by decide +kernel
theorem dX0_become_80 : decode cX0_become 80 = .ok (.iconst 0, 1) := by decide +kernel
theorem dX0_become_81 : decode cX0_become 81 = .ok (.aload_n 0, 1) := by decide +kernel
theorem dX0_become_82 : decode cX0_become 82 = .ok (.getfield 28, 3) := by decide +kernel
theorem dX0_become_85 : decode cX0_become 85 = .ok (.iconst 0, 1) := by decide +kernel
theorem dX0_become_86 : decode cX0_become 86 = .ok (.bipush 8, 2) := by decide +kernel
theorem dX0_become_88 : decode cX0_become 88 = .ok (.invokestatic 43, 3) := by decide +kernel
theorem dX0_become_91 : decode cX0_become 91 = .ok (.aload_n 1, 1) := by decide +kernel
theorem dX0_become_92 : decode cX0_become 92 = .ok (.getfield 31, 3) := by decide +kernel
theorem dX0_become_95 : decode cX0_become 95 = .ok (.iconst 0, 1) := by decide +kernel
theorem dX0_become_96 : decode cX0_become 96 = .ok (.aload_n 0, 1) := by decide +kernel
theorem dX0_become_97 : decode cX0_become 97 = .ok (.getfield 31, 3) := by decide +kernel
theorem dX0_become_100 : decode cX0_become 100 = .ok (.iconst 0, 1) := by decide +kernel
theorem dX0_become_101 : decode cX0_become 101 = .ok (.bipush 8, 2) := by decide +kernel
theorem dX0_become_103 : decode cX0_become 103 = .ok (.invokestatic 43, 3) := by decide +kernel
theorem dX0_become_106 : decode cX0_become 106 = .ok (.aload_n 1, 1) := by decide +kernel
theorem dX0_become_107 : decode cX0_become 107 = .ok (.getfield 34, 3) := by decide +kernel
theorem dX0_become_110 : decode cX0_become 110 = .ok (.iconst 0, 1) := by decide +kernel
theorem dX0_become_111 : decode cX0_become 111 = .ok (.aload_n 0, 1) := by decide +kernel
theorem dX0_become_112 : decode cX0_become 112 = .ok (.getfield 34, 3) := by decide +kernel
theorem dX0_become_115 : decode cX0_become 115 = .ok (.iconst 0, 1) := by decide +kernel
theorem dX0_become_116 : decode cX0_become 116 = .ok (.bipush 8, 2) := by decide +kernel
theorem dX0_become_118 : decode cX0_become 118 = .ok (.invokestatic 43, 3) := by decide +kernel
theorem dX0_become_121 : decode cX0_become 121 = .ok (.aload_n 1, 1) := by decide +kernel
theorem dX0_become_122 : decode cX0_become 122 = .ok (.getfield 37, 3) := by decide +kernel
theorem dX0_become_125 : decode cX0_become 125 = .ok (.iconst 0, 1) := by decide +kernel
theorem dX0_become_126 : decode cX0_become 126 = .ok (.aload_n 0, 1) := by decide +kernel
theorem dX0_become_127 : decode cX0_become 127 = .ok (.getfield 37, 3) := by decide +kernel
theorem dX0_become_130 : decode cX0_become 130 = .ok (.iconst 0, 1) := by decide +kernel
theorem dX0_become_131 : decode cX0_become 131 = .ok (.bipush 8, 2) := by decide +kernel
theorem dX0_become_133 : decode cX0_become 133 = .ok (.invokestatic 43, 3) := by decide +kernel
theorem dX0_become_136 : decode cX0_become 136 = .ok (.return_, 1) := by decide +kernel
theorem dX0_has_0 : decode cX0_has 0 = .ok (.iload_n 1, 1) := by decide +kernel
theorem dX0_has_1 : decode cX0_has 1 = .ok (.ifCond .lt 15, 3) := by decide +kernel
theorem dX0_has_4 : decode cX0_has 4 = .ok (.iload_n 1, 1) := by decide +kernel
theorem dX0_has_5 : decode cX0_has 5 = .ok (.aload_n 0, 1) := by decide +kernel
theorem dX0_has_6 : decode cX0_has 6 = .ok (.getfield 9, 3) := by decide +kernel
theorem dX0_has_9 : decode cX0_has 9 = .ok (.if_icmp .ge 7, 3) := by decide +kernel
theorem dX0_has_12 : decode cX0_has 12 = .ok (.iconst 1, 1) := by decide +kernel
theorem dX0_has_13 : decode cX0_has 13 = .ok (.goto 4, 3) := by decide +kernel
theorem dX0_has_16 : decode cX0_has 16 = .ok (.iconst 0, 1) := by decide +kernel
theorem dX0_has_17 : decode cX0_has 17 = .ok (.ireturn, 1) := by decide +kernel
theorem dX0_hasGate_0 : decode cX0_hasGate 0 = .ok (.iload_n 1, 1) := by decide +kernel
theorem dX0_hasGate_1 : decode cX0_hasGate 1 = .ok (.ifCond .le 15, 3) := by decide +kernel
theorem dX0_hasGate_4 : decode cX0_hasGate 4 = .ok (.iload_n 1, 1) := by decide +kernel
theorem dX0_hasGate_5 : decode cX0_hasGate 5 = .ok (.aload_n 0, 1) := by decide +kernel
theorem dX0_hasGate_6 : decode cX0_hasGate 6 = .ok (.getfield 9, 3) := by decide +kernel
theorem dX0_hasGate_9 : decode cX0_hasGate 9 = .ok (.if_icmp .ge 7, 3) := by decide +kernel
theorem dX0_hasGate_12 : decode cX0_hasGate 12 = .ok (.iconst 1, 1) := by decide +kernel
theorem dX0_hasGate_13 : decode cX0_hasGate 13 = .ok (.goto 4, 3) := by decide +kernel
theorem dX0_hasGate_16 : decode cX0_hasGate 16 = .ok (.iconst 0, 1) := by decide +kernel
theorem dX0_hasGate_17 : decode cX0_hasGate 17 = .ok (.ireturn, 1) := by decide +kernel
theorem dX0_allGates_0 : decode cX0_allGates 0 = .ok (.iconst 1, 1) := by decide +kernel
theorem dX0_allGates_1 : decode cX0_allGates 1 = .ok (.aload_n 0, 1) := by decide +kernel
theorem dX0_allGates_2 : decode cX0_allGates 2 = .ok (.getfield 9, 3) := by decide +kernel
theorem dX0_allGates_5 : decode cX0_allGates 5 = .ok (.ishl, 1) := by decide +kernel
theorem dX0_allGates_6 : decode cX0_allGates 6 = .ok (.iconst 2, 1) := by decide +kernel
theorem dX0_allGates_7 : decode cX0_allGates 7 = .ok (.isub, 1) := by decide +kernel
theorem dX0_allGates_8 : decode cX0_allGates 8 = .ok (.ireturn, 1) := by decide +kernel
theorem dX0_areGates_0 : decode cX0_areGates 0 = .ok (.iload_n 1, 1) := by decide +kernel
theorem dX0_areGates_1 : decode cX0_areGates 1 = .ok (.aload_n 0, 1) := by decide +kernel
theorem dX0_areGates_2 : decode cX0_areGates 2 = .ok (.invokevirtual 49, 3) := by decide +kernel
theorem dX0_areGates_5 : decode cX0_areGates 5 = .ok (.iconst (-1), 1) := by decide +kernel
theorem dX0_areGates_6 : decode cX0_areGates 6 = .ok (.ixor, 1) := by decide +kernel
theorem dX0_areGates_7 : decode cX0_areGates 7 = .ok (.iand, 1) := by decide +kernel
theorem dX0_areGates_8 : decode cX0_areGates 8 = .ok (.ifCond .ne 7, 3) := by decide +kernel
theorem dX0_areGates_11 : decode cX0_areGates 11 = .ok (.iconst 1, 1) := by decide +kernel
theorem dX0_areGates_12 : decode cX0_areGates 12 = .ok (.goto 4, 3) := by decide +kernel
theorem dX0_areGates_15 : decode cX0_areGates 15 = .ok (.iconst 0, 1) := by decide +kernel
theorem dX0_areGates_16 : decode cX0_areGates 16 = .ok (.ireturn, 1) := by decide +kernel
theorem dX0_add_0 : decode cX0_add 0 = .ok (.aload_n 0, 1) := by decide +kernel
theorem dX0_add_1 : decode cX0_add 1 = .ok (.getfield 9, 3) := by decide +kernel
theorem dX0_add_4 : decode cX0_add 4 = .ok (.istore 5, 2) := by decide +kernel
theorem dX0_add_6 : decode cX0_add 6 = .ok (.aload_n 0, 1) := by decide +kernel
theorem dX0_add_7 : decode cX0_add 7 = .ok (.getfield 15, 3) := by decide +kernel
theorem dX0_add_10 : decode cX0_add 10 = .ok (.iload 5, 2) := by decide +kernel
theorem dX0_add_12 : decode cX0_add 12 = .ok (.iload_n 1, 1) := by decide +kernel
theorem dX0_add_13 : decode cX0_add 13 = .ok (.iastore, 1) := by decide +kernel
theorem dX0_add_14 : decode cX0_add 14 = .ok (.aload_n 0, 1) := by decide +kernel
theorem dX0_add_15 : decode cX0_add 15 = .ok (.getfield 19, 3) := by decide +kernel
theorem dX0_add_18 : decode cX0_add 18 = .ok (.iload 5, 2) := by decide +kernel
theorem dX0_add_20 : decode cX0_add 20 = .ok (.iload_n 2, 1) := by decide +kernel
theorem dX0_add_21 : decode cX0_add 21 = .ok (.iastore, 1) := by decide +kernel
theorem dX0_add_22 : decode cX0_add 22 = .ok (.aload_n 0, 1) := by decide +kernel
theorem dX0_add_23 : decode cX0_add 23 = .ok (.getfield 22, 3) := by decide +kernel
theorem dX0_add_26 : decode cX0_add 26 = .ok (.iload 5, 2) := by decide +kernel
theorem dX0_add_28 : decode cX0_add 28 = .ok (.iload_n 3, 1) := by decide +kernel
theorem dX0_add_29 : decode cX0_add 29 = .ok (.iastore, 1) := by decide +kernel
theorem dX0_add_30 : decode cX0_add 30 = .ok (.aload_n 0, 1) := by decide +kernel
theorem dX0_add_31 : decode cX0_add 31 = .ok (.getfield 25, 3) := by decide +kernel
theorem dX0_add_34 : decode cX0_add 34 = .ok (.iload 5, 2) := by decide +kernel
theorem dX0_add_36 : decode cX0_add 36 = .ok (.iload 4, 2) := by decide +kernel
theorem dX0_add_38 : decode cX0_add 38 = .ok (.iastore, 1) := by decide +kernel
theorem dX0_add_39 : decode cX0_add 39 = .ok (.aload_n 0, 1) := by decide +kernel
theorem dX0_add_40 : decode cX0_add 40 = .ok (.dup, 1) := by decide +kernel
theorem dX0_add_41 : decode cX0_add 41 = .ok (.getfield 9, 3) := by decide +kernel
theorem dX0_add_44 : decode cX0_add 44 = .ok (.iconst 1, 1) := by decide +kernel
theorem dX0_add_45 : decode cX0_add 45 = .ok (.iadd, 1) := by decide +kernel
theorem dX0_add_46 : decode cX0_add 46 = .ok (.putfield 9, 3) := by decide +kernel
theorem dX0_add_49 : decode cX0_add 49 = .ok (.iload 5, 2) := by decide +kernel
theorem dX0_add_51 : decode cX0_add 51 = .ok (.ireturn, 1) := by decide +kernel
theorem dX0_isOpen_0 : decode cX0_isOpen 0 = .ok (.aload_n 0, 1) := by decide +kernel
theorem dX0_isOpen_1 : decode cX0_isOpen 1 = .ok (.getfield 40, 3) := by decide +kernel
theorem dX0_isOpen_4 : decode cX0_isOpen 4 = .ok (.iconst 1, 1) := by decide +kernel
theorem dX0_isOpen_5 : decode cX0_isOpen 5 = .ok (.iload_n 1, 1) := by decide +kernel
theorem dX0_isOpen_6 : decode cX0_isOpen 6 = .ok (.ishl, 1) := by decide +kernel
theorem dX0_isOpen_7 : decode cX0_isOpen 7 = .ok (.iand, 1) := by decide +kernel
theorem dX0_isOpen_8 : decode cX0_isOpen 8 = .ok (.ifCond .eq 7, 3) := by decide +kernel
theorem dX0_isOpen_11 : decode cX0_isOpen 11 = .ok (.iconst 1, 1) := by decide +kernel
theorem dX0_isOpen_12 : decode cX0_isOpen 12 = .ok (.goto 4, 3) := by decide +kernel
theorem dX0_isOpen_15 : decode cX0_isOpen 15 = .ok (.iconst 0, 1) := by decide +kernel
theorem dX0_isOpen_16 : decode cX0_isOpen 16 = .ok (.ireturn, 1) := by decide +kernel
theorem dX0_isTended_0 : decode cX0_isTended 0 = .ok (.aload_n 0, 1) := by decide +kernel
theorem dX0_isTended_1 : decode cX0_isTended 1 = .ok (.getfield 28, 3) := by decide +kernel
theorem dX0_isTended_4 : decode cX0_isTended 4 = .ok (.iload_n 1, 1) := by decide +kernel
theorem dX0_isTended_5 : decode cX0_isTended 5 = .ok (.iaload, 1) := by decide +kernel
theorem dX0_isTended_6 : decode cX0_isTended 6 = .ok (.iconst (-1), 1) := by decide +kernel
theorem dX0_isTended_7 : decode cX0_isTended 7 = .ok (.if_icmp .eq 7, 3) := by decide +kernel
theorem dX0_isTended_10 : decode cX0_isTended 10 = .ok (.iconst 1, 1) := by decide +kernel
theorem dX0_isTended_11 : decode cX0_isTended 11 = .ok (.goto 4, 3) := by decide +kernel
theorem dX0_isTended_14 : decode cX0_isTended 14 = .ok (.iconst 0, 1) := by decide +kernel
theorem dX0_isTended_15 : decode cX0_isTended 15 = .ok (.ireturn, 1) := by decide +kernel
theorem dX0_canBeOpened_0 : decode cX0_canBeOpened 0 = .ok (.aload_n 0, 1) := by decide +kernel
theorem dX0_canBeOpened_1 : decode cX0_canBeOpened 1 = .ok (.iload_n 1, 1) := by decide +kernel
theorem dX0_canBeOpened_2 : decode cX0_canBeOpened 2 = .ok (.invokevirtual 53, 3) := by decide +kernel
theorem dX0_canBeOpened_5 : decode cX0_canBeOpened 5 = .ok (.ifCond .eq 15, 3) := by decide +kernel
theorem dX0_canBeOpened_8 : decode cX0_canBeOpened 8 = .ok (.aload_n 0, 1) := by decide +kernel
theorem dX0_canBeOpened_9 : decode cX0_canBeOpened 9 = .ok (.iload_n 1, 1) := by decide +kernel
theorem dX0_canBeOpened_10 : decode cX0_canBeOpened 10 = .ok (.invokevirtual 57, 3) := by decide +kernel
theorem dX0_canBeOpened_13 : decode cX0_canBeOpened 13 = .ok (.ifCond .ne 7, 3) := by decide +kernel
theorem dX0_canBeOpened_16 : decode cX0_canBeOpened 16 = .ok (.iconst 1, 1) := by decide +kernel
theorem dX0_canBeOpened_17 : decode cX0_canBeOpened 17 = .ok (.goto 4, 3) := by decide +kernel
theorem dX0_canBeOpened_20 : decode cX0_canBeOpened 20 = .ok (.iconst 0, 1) := by decide +kernel
theorem dX0_canBeOpened_21 : decode cX0_canBeOpened 21 = .ok (.ireturn, 1) := by decide +kernel
theorem dX0_flipGate_0 : decode cX0_flipGate 0 = .ok (.aload_n 0, 1) := by decide +kernel
theorem dX0_flipGate_1 : decode cX0_flipGate 1 = .ok (.dup, 1) := by decide +kernel
theorem dX0_flipGate_2 : decode cX0_flipGate 2 = .ok (.getfield 40, 3) := by decide +kernel
theorem dX0_flipGate_5 : decode cX0_flipGate 5 = .ok (.iconst 1, 1) := by decide +kernel
theorem dX0_flipGate_6 : decode cX0_flipGate 6 = .ok (.iload_n 1, 1) := by decide +kernel
theorem dX0_flipGate_7 : decode cX0_flipGate 7 = .ok (.ishl, 1) := by decide +kernel
theorem dX0_flipGate_8 : decode cX0_flipGate 8 = .ok (.ixor, 1) := by decide +kernel
theorem dX0_flipGate_9 : decode cX0_flipGate 9 = .ok (.putfield 40, 3) := by decide +kernel
theorem dX0_flipGate_12 : decode cX0_flipGate 12 = .ok (.aload_n 0, 1) := by decide +kernel
theorem dX0_flipGate_13 : decode cX0_flipGate 13 = .ok (.getfield 40, 3) := by decide +kernel
theorem dX0_flipGate_16 : decode cX0_flipGate 16 = .ok (.ireturn, 1) := by decide +kernel
theorem dX0_tended_0 : decode cX0_tended 0 = .ok (.iconst 0, 1) := by decide +kernel
theorem dX0_tended_1 : decode cX0_tended 1 = .ok (.istore_n 1, 1) := by decide +kernel
theorem dX0_tended_2 : decode cX0_tended 2 = .ok (.iconst 1, 1) := by decide +kernel
theorem dX0_tended_3 : decode cX0_tended 3 = .ok (.istore_n 2, 1) := by decide +kernel
theorem dX0_tended_4 : decode cX0_tended 4 = .ok (.iload_n 2, 1) := by decide +kernel
theorem dX0_tended_5 : decode cX0_tended 5 = .ok (.aload_n 0, 1) := by decide +kernel
theorem dX0_tended_6 : decode cX0_tended 6 = .ok (.getfield 9, 3) := by decide +kernel
theorem dX0_tended_9 : decode cX0_tended 9 = .ok (.if_icmp .ge 23, 3) := by decide +kernel
theorem dX0_tended_12 : decode cX0_tended 12 = .ok (.aload_n 0, 1) := by decide +kernel
theorem dX0_tended_13 : decode cX0_tended 13 = .ok (.iload_n 2, 1) := by decide +kernel
theorem dX0_tended_14 : decode cX0_tended 14 = .ok (.invokevirtual 53, 3) := by decide +kernel
theorem dX0_tended_17 : decode cX0_tended 17 = .ok (.ifCond .eq 9, 3) := by decide +kernel
theorem dX0_tended_20 : decode cX0_tended 20 = .ok (.iload_n 1, 1) := by decide +kernel
theorem dX0_tended_21 : decode cX0_tended 21 = .ok (.iconst 1, 1) := by decide +kernel
theorem dX0_tended_22 : decode cX0_tended 22 = .ok (.iload_n 2, 1) := by decide +kernel
theorem dX0_tended_23 : decode cX0_tended 23 = .ok (.ishl, 1) := by decide +kernel
theorem dX0_tended_24 : decode cX0_tended 24 = .ok (.ior, 1) := by decide +kernel
theorem dX0_tended_25 : decode cX0_tended 25 = .ok (.istore_n 1, 1) := by decide +kernel
theorem dX0_tended_26 : decode cX0_tended 26 = .ok (.iinc 2 1, 3) := by decide +kernel
theorem dX0_tended_29 : decode cX0_tended 29 = .ok (.goto (-25), 3) := by decide +kernel
theorem dX0_tended_32 : decode cX0_tended 32 = .ok (.iload_n 1, 1) := by decide +kernel
theorem dX0_tended_33 : decode cX0_tended 33 = .ok (.ireturn, 1) := by decide +kernel
theorem dX0_gatesOf_0 : decode cX0_gatesOf 0 = .ok (.iconst 0, 1) := by decide +kernel
theorem dX0_gatesOf_1 : decode cX0_gatesOf 1 = .ok (.istore_n 2, 1) := by decide +kernel
theorem dX0_gatesOf_2 : decode cX0_gatesOf 2 = .ok (.iconst 1, 1) := by decide +kernel
theorem dX0_gatesOf_3 : decode cX0_gatesOf 3 = .ok (.istore_n 3, 1) := by decide +kernel
theorem dX0_gatesOf_4 : decode cX0_gatesOf 4 = .ok (.iload_n 3, 1) := by decide +kernel
theorem dX0_gatesOf_5 : decode cX0_gatesOf 5 = .ok (.aload_n 0, 1) := by decide +kernel
theorem dX0_gatesOf_6 : decode cX0_gatesOf 6 = .ok (.getfield 9, 3) := by decide +kernel
theorem dX0_gatesOf_9 : decode cX0_gatesOf 9 = .ok (.if_icmp .ge 22, 3) := by decide +kernel
theorem dX0_gatesOf_12 : decode cX0_gatesOf 12 = .ok (.aload_n 0, 1) := by decide +kernel
theorem dX0_gatesOf_13 : decode cX0_gatesOf 13 = .ok (.getfield 28, 3) := by decide +kernel
theorem dX0_gatesOf_16 : decode cX0_gatesOf 16 = .ok (.iload_n 3, 1) := by decide +kernel
theorem dX0_gatesOf_17 : decode cX0_gatesOf 17 = .ok (.iaload, 1) := by decide +kernel
theorem dX0_gatesOf_18 : decode cX0_gatesOf 18 = .ok (.iload_n 1, 1) := by decide +kernel
theorem dX0_gatesOf_19 : decode cX0_gatesOf 19 = .ok (.if_icmp .ne 6, 3) := by decide +kernel
theorem dX0_gatesOf_22 : decode cX0_gatesOf 22 = .ok (.iinc 2 1, 3) := by decide +kernel
theorem dX0_gatesOf_25 : decode cX0_gatesOf 25 = .ok (.iinc 3 1, 3) := by decide +kernel
theorem dX0_gatesOf_28 : decode cX0_gatesOf 28 = .ok (.goto (-24), 3) := by decide +kernel
theorem dX0_gatesOf_31 : decode cX0_gatesOf 31 = .ok (.iload_n 2, 1) := by decide +kernel
theorem dX0_gatesOf_32 : decode cX0_gatesOf 32 = .ok (.ireturn, 1) := by decide +kernel
theorem dX0_below_0 : decode cX0_below 0 = .ok (.iconst 1, 1) := by decide +kernel
theorem dX0_below_1 : decode cX0_below 1 = .ok (.iload_n 1, 1) := by decide +kernel
theorem dX0_below_2 : decode cX0_below 2 = .ok (.ishl, 1) := by decide +kernel
theorem dX0_below_3 : decode cX0_below 3 = .ok (.istore_n 2, 1) := by decide +kernel
theorem dX0_below_4 : decode cX0_below 4 = .ok (.iload_n 1, 1) := by decide +kernel
theorem dX0_below_5 : decode cX0_below 5 = .ok (.iconst 1, 1) := by decide +kernel
theorem dX0_below_6 : decode cX0_below 6 = .ok (.iadd, 1) := by decide +kernel
theorem dX0_below_7 : decode cX0_below 7 = .ok (.istore_n 3, 1) := by decide +kernel
theorem dX0_below_8 : decode cX0_below 8 = .ok (.iload_n 3, 1) := by decide +kernel
theorem dX0_below_9 : decode cX0_below 9 = .ok (.aload_n 0, 1) := by decide +kernel
theorem dX0_below_10 : decode cX0_below 10 = .ok (.getfield 9, 3) := by decide +kernel
theorem dX0_below_13 : decode cX0_below 13 = .ok (.if_icmp .ge 28, 3) := by decide +kernel
theorem dX0_below_16 : decode cX0_below 16 = .ok (.iload_n 2, 1) := by decide +kernel
theorem dX0_below_17 : decode cX0_below 17 = .ok (.iconst 1, 1) := by decide +kernel
theorem dX0_below_18 : decode cX0_below 18 = .ok (.aload_n 0, 1) := by decide +kernel
theorem dX0_below_19 : decode cX0_below 19 = .ok (.getfield 15, 3) := by decide +kernel
theorem dX0_below_22 : decode cX0_below 22 = .ok (.iload_n 3, 1) := by decide +kernel
theorem dX0_below_23 : decode cX0_below 23 = .ok (.iaload, 1) := by decide +kernel
theorem dX0_below_24 : decode cX0_below 24 = .ok (.ishl, 1) := by decide +kernel
theorem dX0_below_25 : decode cX0_below 25 = .ok (.iand, 1) := by decide +kernel
theorem dX0_below_26 : decode cX0_below 26 = .ok (.ifCond .eq 9, 3) := by decide +kernel
theorem dX0_below_29 : decode cX0_below 29 = .ok (.iload_n 2, 1) := by decide +kernel
theorem dX0_below_30 : decode cX0_below 30 = .ok (.iconst 1, 1) := by decide +kernel
theorem dX0_below_31 : decode cX0_below 31 = .ok (.iload_n 3, 1) := by decide +kernel
theorem dX0_below_32 : decode cX0_below 32 = .ok (.ishl, 1) := by decide +kernel
theorem dX0_below_33 : decode cX0_below 33 = .ok (.ior, 1) := by decide +kernel
theorem dX0_below_34 : decode cX0_below 34 = .ok (.istore_n 2, 1) := by decide +kernel
theorem dX0_below_35 : decode cX0_below 35 = .ok (.iinc 3 1, 3) := by decide +kernel
theorem dX0_below_38 : decode cX0_below 38 = .ok (.goto (-30), 3) := by decide +kernel
theorem dX0_below_41 : decode cX0_below 41 = .ok (.iload_n 2, 1) := by decide +kernel
theorem dX0_below_42 : decode cX0_below 42 = .ok (.iconst 1, 1) := by decide +kernel
theorem dX0_below_43 : decode cX0_below 43 = .ok (.iload_n 1, 1) := by decide +kernel
theorem dX0_below_44 : decode cX0_below 44 = .ok (.ishl, 1) := by decide +kernel
theorem dX0_below_45 : decode cX0_below 45 = .ok (.iconst (-1), 1) := by decide +kernel
theorem dX0_below_46 : decode cX0_below 46 = .ok (.ixor, 1) := by decide +kernel
theorem dX0_below_47 : decode cX0_below 47 = .ok (.iand, 1) := by decide +kernel
theorem dX0_below_48 : decode cX0_below 48 = .ok (.ireturn, 1) := by decide +kernel
theorem dX1_init_0 : decode cX1_init 0 = .ok (.aload_n 0, 1) := by decide +kernel
theorem dX1_init_1 : decode cX1_init 1 = .ok (.invokespecial 3, 3) := by decide +kernel
theorem dX1_init_4 : decode cX1_init 4 = .ok (.aload_n 0, 1) := by decide +kernel
theorem dX1_init_5 : decode cX1_init 5 = .ok (.bipush 10, 2) := by decide +kernel
theorem dX1_init_7 : decode cX1_init 7 = .ok (.newarray .int, 2) := by decide +kernel
theorem dX1_init_9 : decode cX1_init 9 = .ok (.putfield 9, 3) := by decide +kernel
theorem dX1_init_12 : decode cX1_init 12 = .ok (.aload_n 0, 1) := by decide +kernel
theorem dX1_init_13 : decode cX1_init 13 = .ok (.bipush 10, 2) := by decide +kernel
theorem dX1_init_15 : decode cX1_init 15 = .ok (.newarray .int, 2) := by decide +kernel
theorem dX1_init_17 : decode cX1_init 17 = .ok (.putfield 15, 3) := by decide +kernel
theorem dX1_init_20 : decode cX1_init 20 = .ok (.aload_n 0, 1) := by decide +kernel
theorem dX1_init_21 : decode cX1_init 21 = .ok (.bipush 10, 2) := by decide +kernel
theorem dX1_init_23 : decode cX1_init 23 = .ok (.newarray .int, 2) := by decide +kernel
theorem dX1_init_25 : decode cX1_init 25 = .ok (.putfield 18, 3) := by decide +kernel
theorem dX1_init_28 : decode cX1_init 28 = .ok (.aload_n 0, 1) := by decide +kernel
theorem dX1_init_29 : decode cX1_init 29 = .ok (.bipush 10, 2) := by decide +kernel
theorem dX1_init_31 : decode cX1_init 31 = .ok (.newarray .int, 2) := by decide +kernel
theorem dX1_init_33 : decode cX1_init 33 = .ok (.putfield 21, 3) := by decide +kernel
theorem dX1_init_36 : decode cX1_init 36 = .ok (.aload_n 0, 1) := by decide +kernel
theorem dX1_init_37 : decode cX1_init 37 = .ok (.bipush 10, 2) := by decide +kernel
theorem dX1_init_39 : decode cX1_init 39 = .ok (.newarray .int, 2) := by decide +kernel
theorem dX1_init_41 : decode cX1_init 41 = .ok (.putfield 24, 3) := by decide +kernel
theorem dX1_init_44 : decode cX1_init 44 = .ok (.aload_n 0, 1) := by decide +kernel
theorem dX1_init_45 : decode cX1_init 45 = .ok (.bipush 10, 2) := by decide +kernel
theorem dX1_init_47 : decode cX1_init 47 = .ok (.newarray .int, 2) := by decide +kernel
theorem dX1_init_49 : decode cX1_init 49 = .ok (.putfield 27, 3) := by decide +kernel
theorem dX1_init_52 : decode cX1_init 52 = .ok (.aload_n 0, 1) := by decide +kernel
theorem dX1_init_53 : decode cX1_init 53 = .ok (.bipush 10, 2) := by decide +kernel
theorem dX1_init_55 : decode cX1_init 55 = .ok (.newarray .int, 2) := by decide +kernel
theorem dX1_init_57 : decode cX1_init 57 = .ok (.putfield 30, 3) := by decide +kernel
theorem dX1_init_60 : decode cX1_init 60 = .ok (.return_, 1) := by decide +kernel
theorem dX1_become_0 : decode cX1_become 0 = .ok (.aload_n 0, 1) := by decide +kernel
theorem dX1_become_1 : decode cX1_become 1 = .ok (.aload_n 1, 1) := by decide +kernel
theorem dX1_become_2 : decode cX1_become 2 = .ok (.getfield 33, 3) := by decide +kernel
theorem dX1_become_5 : decode cX1_become 5 = .ok (.putfield 33, 3) := by decide +kernel
theorem dX1_become_8 : decode cX1_become 8 = .ok (.aload_n 0, 1) := by decide +kernel
theorem dX1_become_9 : decode cX1_become 9 = .ok (.aload_n 1, 1) := by decide +kernel
theorem dX1_become_10 : decode cX1_become 10 = .ok (.getfield 37, 3) := by decide +kernel
theorem dX1_become_13 : decode cX1_become 13 = .ok (.putfield 37, 3) := by decide +kernel
theorem dX1_become_16 : decode cX1_become 16 = .ok (.aload_n 1, 1) := by decide +kernel
theorem dX1_become_17 : decode cX1_become 17 = .ok (.getfield 9, 3) := by decide +kernel
theorem dX1_become_20 : decode cX1_become 20 = .ok (.iconst 0, 1) := by decide +kernel
theorem dX1_become_21 : decode cX1_become 21 = .ok (.aload_n 0, 1) := by decide +kernel
theorem dX1_become_22 : decode cX1_become 22 = .ok (.getfield 9, 3) := by decide +kernel
theorem dX1_become_25 : decode cX1_become 25 = .ok (.iconst 0, 1) := by decide +kernel
theorem dX1_become_26 : decode cX1_become 26 = .ok (.bipush 10, 2) := by decide +kernel
theorem dX1_become_28 : decode cX1_become 28 = .ok (.invokestatic 40, 3) := by decide +kernel
theorem dX1_become_31 : decode cX1_become 31 = .ok (.aload_n 1, 1) := by decide +kernel
theorem dX1_become_32 : decode cX1_become 32 = .ok (.getfield 15, 3) := by decide +kernel
theorem dX1_become_35 : decode cX1_become 35 = .ok (.iconst 0, 1) := by decide +kernel
theorem dX1_become_36 : decode cX1_become 36 = .ok (.aload_n 0, 1) := by decide +kernel
theorem dX1_become_37 : decode cX1_become 37 = .ok (.getfield 15, 3) := by decide +kernel
theorem dX1_become_40 : decode cX1_become 40 = .ok (.iconst 0, 1) := by decide +kernel
theorem dX1_become_41 : decode cX1_become 41 = .ok (.bipush 10, 2) := by decide +kernel
theorem dX1_become_43 : decode cX1_become 43 = .ok (.invokestatic 40, 3) := by decide +kernel
theorem dX1_become_46 : decode cX1_become 46 = .ok (.aload_n 1, 1) := by decide +kernel
theorem dX1_become_47 : decode cX1_become 47 = .ok (.getfield 18, 3) := by decide +kernel
theorem dX1_become_50 : decode cX1_become 50 = .ok (.iconst 0, 1) := by decide +kernel
theorem dX1_become_51 : decode cX1_become 51 = .ok (.aload_n 0, 1) := by decide +kernel
theorem dX1_become_52 : decode cX1_become 52 = .ok (.getfield 18, 3) := by decide +kernel
theorem dX1_become_55 : decode cX1_become 55 = .ok (.iconst 0, 1) := by decide +kernel
theorem dX1_become_56 : decode cX1_become 56 = .ok (.bipush 10, 2) := by decide +kernel
theorem dX1_become_58 : decode cX1_become 58 = .ok (.invokestatic 40, 3) := by decide +kernel
theorem dX1_become_61 : decode cX1_become 61 = .ok (.aload_n 1, 1) := by decide +kernel
theorem dX1_become_62 : decode cX1_become 62 = .ok (.getfield 21, 3) := by decide +kernel
theorem dX1_become_65 : decode cX1_become 65 = .ok (.iconst 0, 1) := by decide +kernel
theorem dX1_become_66 : decode cX1_become 66 = .ok (.aload_n 0, 1) := by decide +kernel
theorem dX1_become_67 : decode cX1_become 67 = .ok (.getfield 21, 3) := by decide +kernel
theorem dX1_become_70 : decode cX1_become 70 = .ok (.iconst 0, 1) := by decide +kernel
theorem dX1_become_71 : decode cX1_become 71 = .ok (.bipush 10, 2) := by decide +kernel
theorem dX1_become_73 : decode cX1_become 73 = .ok (.invokestatic 40, 3) := by decide +kernel
theorem dX1_become_76 : decode cX1_become 76 = .ok (.aload_n 1, 1) := by decide +kernel
theorem dX1_become_77 : decode cX1_become 77 = .ok (.getfield 24, 3) := by decide +kernel
theorem dX1_become_80 : decode cX1_become 80 = .ok (.iconst 0, 1) := by decide +kernel
theorem dX1_become_81 : decode cX1_become 81 = .ok (.aload_n 0, 1) := by decide +kernel
theorem dX1_become_82 : decode cX1_become 82 = .ok (.getfield 24, 3) := by decide +kernel
theorem dX1_become_85 : decode cX1_become 85 = .ok (.iconst 0, 1) := by decide +kernel
theorem dX1_become_86 : decode cX1_become 86 = .ok (.bipush 10, 2) := by decide +kernel
theorem dX1_become_88 : decode cX1_become 88 = .ok (.invokestatic 40, 3) := by decide +kernel
theorem dX1_become_91 : decode cX1_become 91 = .ok (.aload_n 1, 1) := by decide +kernel
theorem dX1_become_92 : decode cX1_become 92 = .ok (.getfield 27, 3) := by decide +kernel
theorem dX1_become_95 : decode cX1_become 95 = .ok (.iconst 0, 1) := by decide +kernel
theorem dX1_become_96 : decode cX1_become 96 = .ok (.aload_n 0, 1) := by decide +kernel
theorem dX1_become_97 : decode cX1_become 97 = .ok (.getfield 27, 3) := by decide +kernel
theorem dX1_become_100 : decode cX1_become 100 = .ok (.iconst 0, 1) := by decide +kernel
theorem dX1_become_101 : decode cX1_become 101 = .ok (.bipush 10, 2) := by decide +kernel
theorem dX1_become_103 : decode cX1_become 103 = .ok (.invokestatic 40, 3) := by decide +kernel
theorem dX1_become_106 : decode cX1_become 106 = .ok (.aload_n 1, 1) := by decide +kernel
theorem dX1_become_107 : decode cX1_become 107 = .ok (.getfield 30, 3) := by decide +kernel
theorem dX1_become_110 : decode cX1_become 110 = .ok (.iconst 0, 1) := by decide +kernel
theorem dX1_become_111 : decode cX1_become 111 = .ok (.aload_n 0, 1) := by decide +kernel
theorem dX1_become_112 : decode cX1_become 112 = .ok (.getfield 30, 3) := by decide +kernel
theorem dX1_become_115 : decode cX1_become 115 = .ok (.iconst 0, 1) := by decide +kernel
theorem dX1_become_116 : decode cX1_become 116 = .ok (.bipush 10, 2) := by decide +kernel
theorem dX1_become_118 : decode cX1_become 118 = .ok (.invokestatic 40, 3) := by decide +kernel
theorem dX1_become_121 : decode cX1_become 121 = .ok (.return_, 1) := by decide +kernel
theorem dX1_has_0 : decode cX1_has 0 = .ok (.iload_n 1, 1) := by decide +kernel
theorem dX1_has_1 : decode cX1_has 1 = .ok (.ifCond .lt 15, 3) := by decide +kernel
theorem dX1_has_4 : decode cX1_has 4 = .ok (.iload_n 1, 1) := by decide +kernel
theorem dX1_has_5 : decode cX1_has 5 = .ok (.aload_n 0, 1) := by decide +kernel
theorem dX1_has_6 : decode cX1_has 6 = .ok (.getfield 33, 3) := by decide +kernel
theorem dX1_has_9 : decode cX1_has 9 = .ok (.if_icmp .ge 7, 3) := by decide +kernel
theorem dX1_has_12 : decode cX1_has 12 = .ok (.iconst 1, 1) := by decide +kernel
theorem dX1_has_13 : decode cX1_has 13 = .ok (.goto 4, 3) := by decide +kernel
theorem dX1_has_16 : decode cX1_has 16 = .ok (.iconst 0, 1) := by decide +kernel
theorem dX1_has_17 : decode cX1_has 17 = .ok (.ireturn, 1) := by decide +kernel
theorem dX1_add_0 : decode cX1_add 0 = .ok (.aload_n 0, 1) := by decide +kernel
theorem dX1_add_1 : decode cX1_add 1 = .ok (.getfield 33, 3) := by decide +kernel
theorem dX1_add_4 : decode cX1_add 4 = .ok (.istore 5, 2) := by decide +kernel
theorem dX1_add_6 : decode cX1_add 6 = .ok (.aload_n 0, 1) := by decide +kernel
theorem dX1_add_7 : decode cX1_add 7 = .ok (.getfield 9, 3) := by decide +kernel
theorem dX1_add_10 : decode cX1_add 10 = .ok (.iload 5, 2) := by decide +kernel
theorem dX1_add_12 : decode cX1_add 12 = .ok (.iload_n 1, 1) := by decide +kernel
theorem dX1_add_13 : decode cX1_add 13 = .ok (.iastore, 1) := by decide +kernel
theorem dX1_add_14 : decode cX1_add 14 = .ok (.aload_n 0, 1) := by decide +kernel
theorem dX1_add_15 : decode cX1_add 15 = .ok (.getfield 15, 3) := by decide +kernel
theorem dX1_add_18 : decode cX1_add 18 = .ok (.iload 5, 2) := by decide +kernel
theorem dX1_add_20 : decode cX1_add 20 = .ok (.iload_n 2, 1) := by decide +kernel
theorem dX1_add_21 : decode cX1_add 21 = .ok (.iastore, 1) := by decide +kernel
theorem dX1_add_22 : decode cX1_add 22 = .ok (.aload_n 0, 1) := by decide +kernel
theorem dX1_add_23 : decode cX1_add 23 = .ok (.getfield 18, 3) := by decide +kernel
theorem dX1_add_26 : decode cX1_add 26 = .ok (.iload 5, 2) := by decide +kernel
theorem dX1_add_28 : decode cX1_add 28 = .ok (.iload_n 3, 1) := by decide +kernel
theorem dX1_add_29 : decode cX1_add 29 = .ok (.iastore, 1) := by decide +kernel
theorem dX1_add_30 : decode cX1_add 30 = .ok (.aload_n 0, 1) := by decide +kernel
theorem dX1_add_31 : decode cX1_add 31 = .ok (.getfield 21, 3) := by decide +kernel
theorem dX1_add_34 : decode cX1_add 34 = .ok (.iload 5, 2) := by decide +kernel
theorem dX1_add_36 : decode cX1_add 36 = .ok (.iload 4, 2) := by decide +kernel
theorem dX1_add_38 : decode cX1_add 38 = .ok (.iastore, 1) := by decide +kernel
theorem dX1_add_39 : decode cX1_add 39 = .ok (.aload_n 0, 1) := by decide +kernel
theorem dX1_add_40 : decode cX1_add 40 = .ok (.getfield 33, 3) := by decide +kernel
theorem dX1_add_43 : decode cX1_add 43 = .ok (.istore 6, 2) := by decide +kernel
theorem dX1_add_45 : decode cX1_add 45 = .ok (.iload 6, 2) := by decide +kernel
theorem dX1_add_47 : decode cX1_add 47 = .ok (.ifCond .le 44, 3) := by decide +kernel
theorem dX1_add_50 : decode cX1_add 50 = .ok (.aload_n 0, 1) := by decide +kernel
theorem dX1_add_51 : decode cX1_add 51 = .ok (.getfield 21, 3) := by decide +kernel
theorem dX1_add_54 : decode cX1_add 54 = .ok (.aload_n 0, 1) := by decide +kernel
theorem dX1_add_55 : decode cX1_add 55 = .ok (.getfield 30, 3) := by decide +kernel
theorem dX1_add_58 : decode cX1_add 58 = .ok (.iload 6, 2) := by decide +kernel
theorem dX1_add_60 : decode cX1_add 60 = .ok (.iconst 1, 1) := by decide +kernel
theorem dX1_add_61 : decode cX1_add 61 = .ok (.isub, 1) := by decide +kernel
theorem dX1_add_62 : decode cX1_add 62 = .ok (.iaload, 1) := by decide +kernel
theorem dX1_add_63 : decode cX1_add 63 = .ok (.iaload, 1) := by decide +kernel
theorem dX1_add_64 : decode cX1_add 64 = .ok (.iload 4, 2) := by decide +kernel
theorem dX1_add_66 : decode cX1_add 66 = .ok (.if_icmp .le 25, 3) := by decide +kernel
theorem dX1_add_69 : decode cX1_add 69 = .ok (.aload_n 0, 1) := by decide +kernel
theorem dX1_add_70 : decode cX1_add 70 = .ok (.getfield 30, 3) := by decide +kernel
theorem dX1_add_73 : decode cX1_add 73 = .ok (.iload 6, 2) := by decide +kernel
theorem dX1_add_75 : decode cX1_add 75 = .ok (.aload_n 0, 1) := by decide +kernel
theorem dX1_add_76 : decode cX1_add 76 = .ok (.getfield 30, 3) := by decide +kernel
theorem dX1_add_79 : decode cX1_add 79 = .ok (.iload 6, 2) := by decide +kernel
theorem dX1_add_81 : decode cX1_add 81 = .ok (.iconst 1, 1) := by decide +kernel
theorem dX1_add_82 : decode cX1_add 82 = .ok (.isub, 1) := by decide +kernel
theorem dX1_add_83 : decode cX1_add 83 = .ok (.iaload, 1) := by decide +kernel
theorem dX1_add_84 : decode cX1_add 84 = .ok (.iastore, 1) := by decide +kernel
theorem dX1_add_85 : decode cX1_add 85 = .ok (.iinc 6 (-1), 3) := by decide +kernel
theorem dX1_add_88 : decode cX1_add 88 = .ok (.goto (-43), 3) := by decide +kernel
theorem dX1_add_91 : decode cX1_add 91 = .ok (.aload_n 0, 1) := by decide +kernel
theorem dX1_add_92 : decode cX1_add 92 = .ok (.getfield 30, 3) := by decide +kernel
theorem dX1_add_95 : decode cX1_add 95 = .ok (.iload 6, 2) := by decide +kernel
theorem dX1_add_97 : decode cX1_add 97 = .ok (.iload 5, 2) := by decide +kernel
theorem dX1_add_99 : decode cX1_add 99 = .ok (.iastore, 1) := by decide +kernel
theorem dX1_add_100 : decode cX1_add 100 = .ok (.aload_n 0, 1) := by decide +kernel
theorem dX1_add_101 : decode cX1_add 101 = .ok (.dup, 1) := by decide +kernel
theorem dX1_add_102 : decode cX1_add 102 = .ok (.getfield 33, 3) := by decide +kernel
theorem dX1_add_105 : decode cX1_add 105 = .ok (.iconst 1, 1) := by decide +kernel
theorem dX1_add_106 : decode cX1_add 106 = .ok (.iadd, 1) := by decide +kernel
theorem dX1_add_107 : decode cX1_add 107 = .ok (.putfield 33, 3) := by decide +kernel
theorem dX1_add_110 : decode cX1_add 110 = .ok (.iload 5, 2) := by decide +kernel
theorem dX1_add_112 : decode cX1_add 112 = .ok (.ireturn, 1) := by decide +kernel
theorem dX1_wants_0 : decode cX1_wants 0 = .ok (.aload_n 0, 1) := by decide +kernel
theorem dX1_wants_1 : decode cX1_wants 1 = .ok (.getfield 24, 3) := by decide +kernel
theorem dX1_wants_4 : decode cX1_wants 4 = .ok (.iload_n 1, 1) := by decide +kernel
theorem dX1_wants_5 : decode cX1_wants 5 = .ok (.iaload, 1) := by decide +kernel
theorem dX1_wants_6 : decode cX1_wants 6 = .ok (.aload_n 0, 1) := by decide +kernel
theorem dX1_wants_7 : decode cX1_wants 7 = .ok (.getfield 15, 3) := by decide +kernel
theorem dX1_wants_10 : decode cX1_wants 10 = .ok (.iload_n 1, 1) := by decide +kernel
theorem dX1_wants_11 : decode cX1_wants 11 = .ok (.iaload, 1) := by decide +kernel
theorem dX1_wants_12 : decode cX1_wants 12 = .ok (.if_icmp .ge 7, 3) := by decide +kernel
theorem dX1_wants_15 : decode cX1_wants 15 = .ok (.iconst 1, 1) := by decide +kernel
theorem dX1_wants_16 : decode cX1_wants 16 = .ok (.goto 4, 3) := by decide +kernel
theorem dX1_wants_19 : decode cX1_wants 19 = .ok (.iconst 0, 1) := by decide +kernel
theorem dX1_wants_20 : decode cX1_wants 20 = .ok (.ireturn, 1) := by decide +kernel
theorem dX1_wanting_0 : decode cX1_wanting 0 = .ok (.iconst 0, 1) := by decide +kernel
theorem dX1_wanting_1 : decode cX1_wanting 1 = .ok (.istore_n 1, 1) := by decide +kernel
theorem dX1_wanting_2 : decode cX1_wanting 2 = .ok (.iconst 0, 1) := by decide +kernel
theorem dX1_wanting_3 : decode cX1_wanting 3 = .ok (.istore_n 2, 1) := by decide +kernel
theorem dX1_wanting_4 : decode cX1_wanting 4 = .ok (.iload_n 2, 1) := by decide +kernel
theorem dX1_wanting_5 : decode cX1_wanting 5 = .ok (.aload_n 0, 1) := by decide +kernel
theorem dX1_wanting_6 : decode cX1_wanting 6 = .ok (.getfield 33, 3) := by decide +kernel
theorem dX1_wanting_9 : decode cX1_wanting 9 = .ok (.if_icmp .ge 23, 3) := by decide +kernel
theorem dX1_wanting_12 : decode cX1_wanting 12 = .ok (.aload_n 0, 1) := by decide +kernel
theorem dX1_wanting_13 : decode cX1_wanting 13 = .ok (.iload_n 2, 1) := by decide +kernel
theorem dX1_wanting_14 : decode cX1_wanting 14 = .ok (.invokevirtual 46, 3) := by decide +kernel
theorem dX1_wanting_17 : decode cX1_wanting 17 = .ok (.ifCond .eq 9, 3) := by decide +kernel
theorem dX1_wanting_20 : decode cX1_wanting 20 = .ok (.iload_n 1, 1) := by decide +kernel
theorem dX1_wanting_21 : decode cX1_wanting 21 = .ok (.iconst 1, 1) := by decide +kernel
theorem dX1_wanting_22 : decode cX1_wanting 22 = .ok (.iload_n 2, 1) := by decide +kernel
theorem dX1_wanting_23 : decode cX1_wanting 23 = .ok (.ishl, 1) := by decide +kernel
theorem dX1_wanting_24 : decode cX1_wanting 24 = .ok (.ior, 1) := by decide +kernel
theorem dX1_wanting_25 : decode cX1_wanting 25 = .ok (.istore_n 1, 1) := by decide +kernel
theorem dX1_wanting_26 : decode cX1_wanting 26 = .ok (.iinc 2 1, 3) := by decide +kernel
theorem dX1_wanting_29 : decode cX1_wanting 29 = .ok (.goto (-25), 3) := by decide +kernel
theorem dX1_wanting_32 : decode cX1_wanting 32 = .ok (.iload_n 1, 1) := by decide +kernel
theorem dX1_wanting_33 : decode cX1_wanting 33 = .ok (.ireturn, 1) := by decide +kernel
theorem dX1_calls_0 : decode cX1_calls 0 = .ok (.aload_n 0, 1) := by decide +kernel
theorem dX1_calls_1 : decode cX1_calls 1 = .ok (.getfield 37, 3) := by decide +kernel
theorem dX1_calls_4 : decode cX1_calls 4 = .ok (.iconst 1, 1) := by decide +kernel
theorem dX1_calls_5 : decode cX1_calls 5 = .ok (.iload_n 1, 1) := by decide +kernel
theorem dX1_calls_6 : decode cX1_calls 6 = .ok (.ishl, 1) := by decide +kernel
theorem dX1_calls_7 : decode cX1_calls 7 = .ok (.iand, 1) := by decide +kernel
theorem dX1_calls_8 : decode cX1_calls 8 = .ok (.ifCond .eq 7, 3) := by decide +kernel
theorem dX1_calls_11 : decode cX1_calls 11 = .ok (.iconst 1, 1) := by decide +kernel
theorem dX1_calls_12 : decode cX1_calls 12 = .ok (.goto 4, 3) := by decide +kernel
theorem dX1_calls_15 : decode cX1_calls 15 = .ok (.iconst 0, 1) := by decide +kernel
theorem dX1_calls_16 : decode cX1_calls 16 = .ok (.ireturn, 1) := by decide +kernel
theorem dX1_canCall_0 : decode cX1_canCall 0 = .ok (.aload_n 0, 1) := by decide +kernel
theorem dX1_canCall_1 : decode cX1_canCall 1 = .ok (.iload_n 1, 1) := by decide +kernel
theorem dX1_canCall_2 : decode cX1_canCall 2 = .ok (.invokevirtual 46, 3) := by decide +kernel
theorem dX1_canCall_5 : decode cX1_canCall 5 = .ok (.ifCond .eq 15, 3) := by decide +kernel
theorem dX1_canCall_8 : decode cX1_canCall 8 = .ok (.aload_n 0, 1) := by decide +kernel
theorem dX1_canCall_9 : decode cX1_canCall 9 = .ok (.iload_n 1, 1) := by decide +kernel
theorem dX1_canCall_10 : decode cX1_canCall 10 = .ok (.invokevirtual 50, 3) := by decide +kernel
theorem dX1_canCall_13 : decode cX1_canCall 13 = .ok (.ifCond .ne 7, 3) := by decide +kernel
theorem dX1_canCall_16 : decode cX1_canCall 16 = .ok (.iconst 1, 1) := by decide +kernel
theorem dX1_canCall_17 : decode cX1_canCall 17 = .ok (.goto 4, 3) := by decide +kernel
theorem dX1_canCall_20 : decode cX1_canCall 20 = .ok (.iconst 0, 1) := by decide +kernel
theorem dX1_canCall_21 : decode cX1_canCall 21 = .ok (.ireturn, 1) := by decide +kernel
theorem dX1_beginCall_0 : decode cX1_beginCall 0 = .ok (.aload_n 0, 1) := by decide +kernel
theorem dX1_beginCall_1 : decode cX1_beginCall 1 = .ok (.dup, 1) := by decide +kernel
theorem dX1_beginCall_2 : decode cX1_beginCall 2 = .ok (.getfield 37, 3) := by decide +kernel
theorem dX1_beginCall_5 : decode cX1_beginCall 5 = .ok (.iconst 1, 1) := by decide +kernel
theorem dX1_beginCall_6 : decode cX1_beginCall 6 = .ok (.iload_n 1, 1) := by decide +kernel
theorem dX1_beginCall_7 : decode cX1_beginCall 7 = .ok (.ishl, 1) := by decide +kernel
theorem dX1_beginCall_8 : decode cX1_beginCall 8 = .ok (.ior, 1) := by decide +kernel
theorem dX1_beginCall_9 : decode cX1_beginCall 9 = .ok (.putfield 37, 3) := by decide +kernel
theorem dX1_beginCall_12 : decode cX1_beginCall 12 = .ok (.aload_n 0, 1) := by decide +kernel
theorem dX1_beginCall_13 : decode cX1_beginCall 13 = .ok (.getfield 37, 3) := by decide +kernel
theorem dX1_beginCall_16 : decode cX1_beginCall 16 = .ok (.invokestatic 53, 3) := by decide +kernel
theorem dX1_beginCall_19 : decode cX1_beginCall 19 = .ok (.ireturn, 1) := by decide +kernel
theorem dX1_give_0 : decode cX1_give 0 = .ok (.iload_n 2, 1) := by decide +kernel
theorem dX1_give_1 : decode cX1_give 1 = .ok (.aload_n 0, 1) := by decide +kernel
theorem dX1_give_2 : decode cX1_give 2 = .ok (.getfield 18, 3) := by decide +kernel
theorem dX1_give_5 : decode cX1_give 5 = .ok (.iload_n 1, 1) := by decide +kernel
theorem dX1_give_6 : decode cX1_give 6 = .ok (.iaload, 1) := by decide +kernel
theorem dX1_give_7 : decode cX1_give 7 = .ok (.aload_n 0, 1) := by decide +kernel
theorem dX1_give_8 : decode cX1_give 8 = .ok (.getfield 15, 3) := by decide +kernel
theorem dX1_give_11 : decode cX1_give 11 = .ok (.iload_n 1, 1) := by decide +kernel
theorem dX1_give_12 : decode cX1_give 12 = .ok (.iaload, 1) := by decide +kernel
theorem dX1_give_13 : decode cX1_give 13 = .ok (.aload_n 0, 1) := by decide +kernel
theorem dX1_give_14 : decode cX1_give 14 = .ok (.getfield 24, 3) := by decide +kernel
theorem dX1_give_17 : decode cX1_give 17 = .ok (.iload_n 1, 1) := by decide +kernel
theorem dX1_give_18 : decode cX1_give 18 = .ok (.iaload, 1) := by decide +kernel
theorem dX1_give_19 : decode cX1_give 19 = .ok (.isub, 1) := by decide +kernel
theorem dX1_give_20 : decode cX1_give 20 = .ok (.invokestatic 59, 3) := by decide +kernel
theorem dX1_give_23 : decode cX1_give 23 = .ok (.invokestatic 59, 3) := by decide +kernel
theorem dX1_give_26 : decode cX1_give 26 = .ok (.istore 4, 2) := by decide +kernel
theorem dX1_give_28 : decode cX1_give 28 = .ok (.aload_n 0, 1) := by decide +kernel
theorem dX1_give_29 : decode cX1_give 29 = .ok (.getfield 24, 3) := by decide +kernel
theorem dX1_give_32 : decode cX1_give 32 = .ok (.iload_n 1, 1) := by decide +kernel
theorem dX1_give_33 : decode cX1_give 33 = .ok (.dup2, 1) := by decide +kernel
theorem dX1_give_34 : decode cX1_give 34 = .ok (.iaload, 1) := by decide +kernel
theorem dX1_give_35 : decode cX1_give 35 = .ok (.iload 4, 2) := by decide +kernel
theorem dX1_give_37 : decode cX1_give 37 = .ok (.iadd, 1) := by decide +kernel
theorem dX1_give_38 : decode cX1_give 38 = .ok (.iastore, 1) := by decide +kernel
theorem dX1_give_39 : decode cX1_give 39 = .ok (.aload_n 0, 1) := by decide +kernel
theorem dX1_give_40 : decode cX1_give 40 = .ok (.getfield 24, 3) := by decide +kernel
theorem dX1_give_43 : decode cX1_give 43 = .ok (.iload_n 1, 1) := by decide +kernel
theorem dX1_give_44 : decode cX1_give 44 = .ok (.iaload, 1) := by decide +kernel
theorem dX1_give_45 : decode cX1_give 45 = .ok (.aload_n 0, 1) := by decide +kernel
theorem dX1_give_46 : decode cX1_give 46 = .ok (.getfield 15, 3) := by decide +kernel
theorem dX1_give_49 : decode cX1_give 49 = .ok (.iload_n 1, 1) := by decide +kernel
theorem dX1_give_50 : decode cX1_give 50 = .ok (.iaload, 1) := by decide +kernel
theorem dX1_give_51 : decode cX1_give 51 = .ok (.if_icmp .lt 10, 3) := by decide +kernel
theorem dX1_give_54 : decode cX1_give 54 = .ok (.aload_n 0, 1) := by decide +kernel
theorem dX1_give_55 : decode cX1_give 55 = .ok (.getfield 27, 3) := by decide +kernel
theorem dX1_give_58 : decode cX1_give 58 = .ok (.iload_n 1, 1) := by decide +kernel
theorem dX1_give_59 : decode cX1_give 59 = .ok (.iload_n 3, 1) := by decide +kernel
theorem dX1_give_60 : decode cX1_give 60 = .ok (.iastore, 1) := by decide +kernel
theorem dX1_give_61 : decode cX1_give 61 = .ok (.iload 4, 2) := by decide +kernel
theorem dX1_give_63 : decode cX1_give 63 = .ok (.ireturn, 1) := by decide +kernel
theorem dX2_init_0 : decode cX2_init 0 = .ok (.aload_n 0, 1) := by decide +kernel
theorem dX2_init_1 : decode cX2_init 1 = .ok (.invokespecial 3, 3) := by decide +kernel
theorem dX2_init_4 : decode cX2_init 4 = .ok (.aload_n 0, 1) := by decide +kernel
theorem dX2_init_5 : decode cX2_init 5 = .ok (.iconst 4, 1) := by decide +kernel
theorem dX2_init_6 : decode cX2_init 6 = .ok (.anewarray 9, 3) := by decide +kernel
theorem dX2_init_9 : decode cX2_init 9 = .ok (.putfield 11, 3) := by decide +kernel
theorem dX2_init_12 : decode cX2_init 12 = .ok (.iconst 0, 1) := by decide +kernel
theorem dX2_init_13 : decode cX2_init 13 = .ok (.istore_n 1, 1) := by decide +kernel
theorem dX2_init_14 : decode cX2_init 14 = .ok (.iload_n 1, 1) := by decide +kernel
theorem dX2_init_15 : decode cX2_init 15 = .ok (.iconst 4, 1) := by decide +kernel
theorem dX2_init_16 : decode cX2_init 16 = .ok (.if_icmp .ge 22, 3) := by decide +kernel
theorem dX2_init_19 : decode cX2_init 19 = .ok (.aload_n 0, 1) := by decide +kernel
theorem dX2_init_20 : decode cX2_init 20 = .ok (.getfield 11, 3) := by decide +kernel
theorem dX2_init_23 : decode cX2_init 23 = .ok (.iload_n 1, 1) := by decide +kernel
theorem dX2_init_24 : decode cX2_init 24 = .ok (.new 9, 3) := by decide +kernel
theorem dX2_init_27 : decode cX2_init 27 = .ok (.dup, 1) := by decide +kernel
theorem dX2_init_28 : decode cX2_init 28 = .ok (.invokespecial 17, 3) := by decide +kernel
theorem dX2_init_31 : decode cX2_init 31 = .ok (.aastore, 1) := by decide +kernel
theorem dX2_init_32 : decode cX2_init 32 = .ok (.iinc 1 1, 3) := by decide +kernel
theorem dX2_init_35 : decode cX2_init 35 = .ok (.goto (-21), 3) := by decide +kernel
theorem dX2_init_38 : decode cX2_init 38 = .ok (.return_, 1) := by decide +kernel
theorem dX2_record_0 : decode cX2_record 0 = .ok (.aload_n 0, 1) := by decide +kernel
theorem dX2_record_1 : decode cX2_record 1 = .ok (.getfield 18, 3) := by decide +kernel
theorem dX2_record_4 : decode cX2_record 4 = .ok (.iconst 4, 1) := by decide +kernel
theorem dX2_record_5 : decode cX2_record 5 = .ok (.if_icmp .lt 7, 3) := by decide +kernel
theorem dX2_record_8 : decode cX2_record 8 = .ok (.aload_n 0, 1) := by decide +kernel
theorem dX2_record_9 : decode cX2_record 9 = .ok (.invokevirtual 22, 3) := by decide +kernel
theorem dX2_record_12 : decode cX2_record 12 = .ok (.aload_n 0, 1) := by decide +kernel
theorem dX2_record_13 : decode cX2_record 13 = .ok (.getfield 11, 3) := by decide +kernel
theorem dX2_record_16 : decode cX2_record 16 = .ok (.aload_n 0, 1) := by decide +kernel
theorem dX2_record_17 : decode cX2_record 17 = .ok (.getfield 18, 3) := by decide +kernel
theorem dX2_record_20 : decode cX2_record 20 = .ok (.aaload, 1) := by decide +kernel
theorem dX2_record_21 : decode cX2_record 21 = .ok (.aload_n 1, 1) := by decide +kernel
theorem dX2_record_22 : decode cX2_record 22 = .ok (.invokevirtual 25, 3) := by decide +kernel
theorem dX2_record_25 : decode cX2_record 25 = .ok (.aload_n 0, 1) := by decide +kernel
theorem dX2_record_26 : decode cX2_record 26 = .ok (.dup, 1) := by decide +kernel
theorem dX2_record_27 : decode cX2_record 27 = .ok (.getfield 18, 3) := by decide +kernel
theorem dX2_record_30 : decode cX2_record 30 = .ok (.iconst 1, 1) := by decide +kernel
theorem dX2_record_31 : decode cX2_record 31 = .ok (.iadd, 1) := by decide +kernel
theorem dX2_record_32 : decode cX2_record 32 = .ok (.putfield 18, 3) := by decide +kernel
theorem dX2_record_35 : decode cX2_record 35 = .ok (.return_, 1) := by decide +kernel
theorem dX2_dropOldest_0 : decode cX2_dropOldest 0 = .ok (.aload_n 0, 1) := by decide +kernel
theorem dX2_dropOldest_1 : decode cX2_dropOldest 1 = .ok (.getfield 11, 3) := by decide +kernel
theorem dX2_dropOldest_4 : decode cX2_dropOldest 4 = .ok (.iconst 0, 1) := by decide +kernel
theorem dX2_dropOldest_5 : decode cX2_dropOldest 5 = .ok (.aaload, 1) := by decide +kernel
theorem dX2_dropOldest_6 : decode cX2_dropOldest 6 = .ok (.astore_n 1, 1) := by decide +kernel
theorem dX2_dropOldest_7 : decode cX2_dropOldest 7 = .ok (.iconst 1, 1) := by decide +kernel
theorem dX2_dropOldest_8 : decode cX2_dropOldest 8 = .ok (.istore_n 2, 1) := by decide +kernel
theorem dX2_dropOldest_9 : decode cX2_dropOldest 9 = .ok (.iload_n 2, 1) := by decide +kernel
theorem dX2_dropOldest_10 : decode cX2_dropOldest 10 = .ok (.iconst 4, 1) := by decide +kernel
theorem dX2_dropOldest_11 : decode cX2_dropOldest 11 = .ok (.if_icmp .ge 23, 3) := by decide +kernel
theorem dX2_dropOldest_14 : decode cX2_dropOldest 14 = .ok (.aload_n 0, 1) := by decide +kernel
theorem dX2_dropOldest_15 : decode cX2_dropOldest 15 = .ok (.getfield 11, 3) := by decide +kernel
theorem dX2_dropOldest_18 : decode cX2_dropOldest 18 = .ok (.iload_n 2, 1) := by decide +kernel
theorem dX2_dropOldest_19 : decode cX2_dropOldest 19 = .ok (.iconst 1, 1) := by decide +kernel
theorem dX2_dropOldest_20 : decode cX2_dropOldest 20 = .ok (.isub, 1) := by decide +kernel
theorem dX2_dropOldest_21 : decode cX2_dropOldest 21 = .ok (.aload_n 0, 1) := by decide +kernel
theorem dX2_dropOldest_22 : decode cX2_dropOldest 22 = .ok (.getfield 11, 3) := by decide +kernel
theorem dX2_dropOldest_25 : decode cX2_dropOldest 25 = .ok (.iload_n 2, 1) := by decide +kernel
theorem dX2_dropOldest_26 : decode cX2_dropOldest 26 = .ok (.aaload, 1) := by decide +kernel
theorem dX2_dropOldest_27 : decode cX2_dropOldest 27 = .ok (.aastore, 1) := by decide +kernel
theorem dX2_dropOldest_28 : decode cX2_dropOldest 28 = .ok (.iinc 2 1, 3) := by decide +kernel
theorem dX2_dropOldest_31 : decode cX2_dropOldest 31 = .ok (.goto (-22), 3) := by decide +kernel
theorem dX2_dropOldest_34 : decode cX2_dropOldest 34 = .ok (.aload_n 0, 1) := by decide +kernel
theorem dX2_dropOldest_35 : decode cX2_dropOldest 35 = .ok (.getfield 11, 3) := by decide +kernel
theorem dX2_dropOldest_38 : decode cX2_dropOldest 38 = .ok (.iconst 3, 1) := by decide +kernel
theorem dX2_dropOldest_39 : decode cX2_dropOldest 39 = .ok (.aload_n 1, 1) := by decide +kernel
theorem dX2_dropOldest_40 : decode cX2_dropOldest 40 = .ok (.aastore, 1) := by decide +kernel
theorem dX2_dropOldest_41 : decode cX2_dropOldest 41 = .ok (.aload_n 0, 1) := by decide +kernel
theorem dX2_dropOldest_42 : decode cX2_dropOldest 42 = .ok (.iconst 3, 1) := by decide +kernel
theorem dX2_dropOldest_43 : decode cX2_dropOldest 43 = .ok (.putfield 18, 3) := by decide +kernel
theorem dX2_dropOldest_46 : decode cX2_dropOldest 46 = .ok (.return_, 1) := by decide +kernel
theorem dX2_restoreLatest_0 : decode cX2_restoreLatest 0 = .ok (.aload_n 0, 1) := by decide +kernel
theorem dX2_restoreLatest_1 : decode cX2_restoreLatest 1 = .ok (.getfield 18, 3) := by decide +kernel
theorem dX2_restoreLatest_4 : decode cX2_restoreLatest 4 = .ok (.ifCond .le 26, 3) := by decide +kernel
theorem dX2_restoreLatest_7 : decode cX2_restoreLatest 7 = .ok (.aload_n 0, 1) := by decide +kernel
theorem dX2_restoreLatest_8 : decode cX2_restoreLatest 8 = .ok (.dup, 1) := by decide +kernel
theorem dX2_restoreLatest_9 : decode cX2_restoreLatest 9 = .ok (.getfield 18, 3) := by decide +kernel
theorem dX2_restoreLatest_12 : decode cX2_restoreLatest 12 = .ok (.iconst 1, 1) := by decide +kernel
theorem dX2_restoreLatest_13 : decode cX2_restoreLatest 13 = .ok (.isub, 1) := by decide +kernel
theorem dX2_restoreLatest_14 : decode cX2_restoreLatest 14 = .ok (.putfield 18, 3) := by decide +kernel
theorem dX2_restoreLatest_17 : decode cX2_restoreLatest 17 = .ok (.aload_n 1, 1) := by decide +kernel
theorem dX2_restoreLatest_18 : decode cX2_restoreLatest 18 = .ok (.aload_n 0, 1) := by decide +kernel
theorem dX2_restoreLatest_19 : decode cX2_restoreLatest 19 = .ok (.getfield 11, 3) := by decide +kernel
theorem dX2_restoreLatest_22 : decode cX2_restoreLatest 22 = .ok (.aload_n 0, 1) := by decide +kernel
theorem dX2_restoreLatest_23 : decode cX2_restoreLatest 23 = .ok (.getfield 18, 3) := by decide +kernel
theorem dX2_restoreLatest_26 : decode cX2_restoreLatest 26 = .ok (.aaload, 1) := by decide +kernel
theorem dX2_restoreLatest_27 : decode cX2_restoreLatest 27 = .ok (.invokevirtual 25, 3) := by decide +kernel
theorem dX2_restoreLatest_30 : decode cX2_restoreLatest 30 = .ok (.aload_n 0, 1) := by decide +kernel
theorem dX2_restoreLatest_31 : decode cX2_restoreLatest 31 = .ok (.getfield 18, 3) := by decide +kernel
theorem dX2_restoreLatest_34 : decode cX2_restoreLatest 34 = .ok (.ireturn, 1) := by decide +kernel
theorem dX3_init_0 : decode cX3_init 0 = .ok (.aload_n 0, 1) := by decide +kernel
theorem dX3_init_1 : decode cX3_init 1 = .ok (.invokespecial 3, 3) := by decide +kernel
theorem dX3_init_4 : decode cX3_init 4 = .ok (.aload_n 0, 1) := by decide +kernel
theorem dX3_init_5 : decode cX3_init 5 = .ok (.bipush 60, 2) := by decide +kernel
theorem dX3_init_7 : decode cX3_init 7 = .ok (.newarray .int, 2) := by decide +kernel
theorem dX3_init_9 : decode cX3_init 9 = .ok (.putfield 9, 3) := by decide +kernel
theorem dX3_init_12 : decode cX3_init 12 = .ok (.return_, 1) := by decide +kernel
theorem dX4_init_0 : decode cX4_init 0 = .ok (.aload_n 0, 1) := by decide +kernel
theorem dX4_init_1 : decode cX4_init 1 = .ok (.invokespecial 3, 3) := by decide +kernel
theorem dX4_init_4 : decode cX4_init 4 = .ok (.aload_n 0, 1) := by decide +kernel
theorem dX4_init_5 : decode cX4_init 5 = .ok (.new 9, 3) := by decide +kernel
theorem dX4_init_8 : decode cX4_init 8 = .ok (.dup, 1) := by decide +kernel
theorem dX4_init_9 : decode cX4_init 9 = .ok (.invokespecial 11, 3) := by decide +kernel
theorem dX4_init_12 : decode cX4_init 12 = .ok (.putfield 12, 3) := by decide +kernel
theorem dX4_init_15 : decode cX4_init 15 = .ok (.aload_n 0, 1) := by decide +kernel
theorem dX4_init_16 : decode cX4_init 16 = .ok (.new 18, 3) := by decide +kernel
theorem dX4_init_19 : decode cX4_init 19 = .ok (.dup, 1) := by decide +kernel
theorem dX4_init_20 : decode cX4_init 20 = .ok (.invokespecial 20, 3) := by decide +kernel
theorem dX4_init_23 : decode cX4_init 23 = .ok (.putfield 21, 3) := by decide +kernel
theorem dX4_init_26 : decode cX4_init 26 = .ok (.aload_n 0, 1) := by decide +kernel
theorem dX4_init_27 : decode cX4_init 27 = .ok (.new 25, 3) := by decide +kernel
theorem dX4_init_30 : decode cX4_init 30 = .ok (.dup, 1) := by decide +kernel
theorem dX4_init_31 : decode cX4_init 31 = .ok (.invokespecial 27, 3) := by decide +kernel
theorem dX4_init_34 : decode cX4_init 34 = .ok (.putfield 28, 3) := by decide +kernel
theorem dX4_init_37 : decode cX4_init 37 = .ok (.aload_n 0, 1) := by decide +kernel
theorem dX4_init_38 : decode cX4_init 38 = .ok (.bipush 8, 2) := by decide +kernel
theorem dX4_init_40 : decode cX4_init 40 = .ok (.newarray .int, 2) := by decide +kernel
theorem dX4_init_42 : decode cX4_init 42 = .ok (.putfield 32, 3) := by decide +kernel
theorem dX4_init_45 : decode cX4_init 45 = .ok (.aload_n 0, 1) := by decide +kernel
theorem dX4_init_46 : decode cX4_init 46 = .ok (.bipush 8, 2) := by decide +kernel
theorem dX4_init_48 : decode cX4_init 48 = .ok (.newarray .int, 2) := by decide +kernel
theorem dX4_init_50 : decode cX4_init 50 = .ok (.putfield 36, 3) := by decide +kernel
theorem dX4_init_53 : decode cX4_init 53 = .ok (.return_, 1) := by decide +kernel
theorem dX4_become_0 : decode cX4_become 0 = .ok (.aload_n 0, 1) := by decide +kernel
theorem dX4_become_1 : decode cX4_become 1 = .ok (.getfield 12, 3) := by decide +kernel
theorem dX4_become_4 : decode cX4_become 4 = .ok (.aload_n 1, 1) := by decide +kernel
theorem dX4_become_5 : decode cX4_become 5 = .ok (.getfield 12, 3) := by decide +kernel
theorem dX4_become_8 : decode cX4_become 8 = .ok (.invokevirtual 39, 3) := by decide +kernel
theorem dX4_become_11 : decode cX4_become 11 = .ok (.aload_n 0, 1) := by decide +kernel
theorem dX4_become_12 : decode cX4_become 12 = .ok (.getfield 21, 3) := by decide +kernel
theorem dX4_become_15 : decode cX4_become 15 = .ok (.aload_n 1, 1) := by decide +kernel
theorem dX4_become_16 : decode cX4_become 16 = .ok (.getfield 21, 3) := by decide +kernel
theorem dX4_become_19 : decode cX4_become 19 = .ok (.invokevirtual 43, 3) := by decide +kernel
theorem dX4_become_22 : decode cX4_become 22 = .ok (.aload_n 0, 1) := by decide +kernel
theorem dX4_become_23 : decode cX4_become 23 = .ok (.getfield 28, 3) := by decide +kernel
theorem dX4_become_26 : decode cX4_become 26 = .ok (.aload_n 1, 1) := by decide +kernel
theorem dX4_become_27 : decode cX4_become 27 = .ok (.getfield 28, 3) := by decide +kernel
theorem dX4_become_30 : decode cX4_become 30 = .ok (.invokevirtual 46, 3) := by decide +kernel
theorem dX4_become_33 : decode cX4_become 33 = .ok (.aload_n 0, 1) := by decide +kernel
theorem dX4_become_34 : decode cX4_become 34 = .ok (.aload_n 1, 1) := by decide +kernel
theorem dX4_become_35 : decode cX4_become 35 = .ok (.getfield 49, 3) := by decide +kernel
theorem dX4_become_38 : decode cX4_become 38 = .ok (.putfield 49, 3) := by decide +kernel
theorem dX4_become_41 : decode cX4_become 41 = .ok (.aload_n 0, 1) := by decide +kernel
theorem dX4_become_42 : decode cX4_become 42 = .ok (.aload_n 1, 1) := by decide +kernel
theorem dX4_become_43 : decode cX4_become 43 = .ok (.getfield 53, 3) := by decide +kernel
theorem dX4_become_46 : decode cX4_become 46 = .ok (.putfield 53, 3) := by decide +kernel
theorem dX4_become_49 : decode cX4_become 49 = .ok (.aload_n 0, 1) := by decide +kernel
theorem dX4_become_50 : decode cX4_become 50 = .ok (.aload_n 1, 1) := by decide +kernel
theorem dX4_become_51 : decode cX4_become 51 = .ok (.getfield 56, 3) := by decide +kernel
theorem dX4_become_54 : decode cX4_become 54 = .ok (.putfield 56, 3) := by decide +kernel
theorem dX4_become_57 : decode cX4_become 57 = .ok (.aload_n 0, 1) := by decide +kernel
theorem dX4_become_58 : decode cX4_become 58 = .ok (.aload_n 1, 1) := by decide +kernel
theorem dX4_become_59 : decode cX4_become 59 = .ok (.getfield 59, 3) := by decide +kernel
theorem dX4_become_62 : decode cX4_become 62 = .ok (.putfield 59, 3) := by decide +kernel
theorem dX4_become_65 : decode cX4_become 65 = .ok (.aload_n 0, 1) := by decide +kernel
theorem dX4_become_66 : decode cX4_become 66 = .ok (.aload_n 1, 1) := by decide +kernel
theorem dX4_become_67 : decode cX4_become 67 = .ok (.getfield 62, 3) := by decide +kernel
theorem dX4_become_70 : decode cX4_become 70 = .ok (.putfield 62, 3) := by decide +kernel
theorem dX4_become_73 : decode cX4_become 73 = .ok (.return_, 1) := by decide +kernel
theorem dX4_hasHoursLeft_0 : decode cX4_hasHoursLeft 0 = .ok (.iload_n 1, 1) := by decide +kernel
theorem dX4_hasHoursLeft_1 : decode cX4_hasHoursLeft 1 = .ok (.sipush 20000, 3) := by decide +kernel
theorem dX4_hasHoursLeft_4 : decode cX4_hasHoursLeft 4 = .ok (.aload_n 0, 1) := by decide +kernel
theorem dX4_hasHoursLeft_5 : decode cX4_hasHoursLeft 5 = .ok (.getfield 49, 3) := by decide +kernel
theorem dX4_hasHoursLeft_8 : decode cX4_hasHoursLeft 8 = .ok (.isub, 1) := by decide +kernel
theorem dX4_hasHoursLeft_9 : decode cX4_hasHoursLeft 9 = .ok (.if_icmp .gt 7, 3) := by decide +kernel
theorem dX4_hasHoursLeft_12 : decode cX4_hasHoursLeft 12 = .ok (.iconst 1, 1) := by decide +kernel
theorem dX4_hasHoursLeft_13 : decode cX4_hasHoursLeft 13 = .ok (.goto 4, 3) := by decide +kernel
theorem dX4_hasHoursLeft_16 : decode cX4_hasHoursLeft 16 = .ok (.iconst 0, 1) := by decide +kernel
theorem dX4_hasHoursLeft_17 : decode cX4_hasHoursLeft 17 = .ok (.ireturn, 1) := by decide +kernel
theorem dX4_runHours_0 : decode cX4_runHours 0 = .ok (.aload_n 0, 1) := by decide +kernel
theorem dX4_runHours_1 : decode cX4_runHours 1 = .ok (.getfield 56, 3) := by decide +kernel
theorem dX4_runHours_4 : decode cX4_runHours 4 = .ok (.istore_n 3, 1) := by decide +kernel
theorem dX4_runHours_5 : decode cX4_runHours 5 = .ok (.iconst 0, 1) := by decide +kernel
theorem dX4_runHours_6 : decode cX4_runHours 6 = .ok (.istore 4, 2) := by decide +kernel
theorem dX4_runHours_8 : decode cX4_runHours 8 = .ok (.iload 4, 2) := by decide +kernel
theorem dX4_runHours_10 : decode cX4_runHours 10 = .ok (.iload_n 1, 1) := by decide +kernel
theorem dX4_runHours_11 : decode cX4_runHours 11 = .ok (.if_icmp .ge 43, 3) := by decide +kernel
theorem dX4_runHours_14 : decode cX4_runHours 14 = .ok (.aload_n 0, 1) := by decide +kernel
theorem dX4_runHours_15 : decode cX4_runHours 15 = .ok (.getfield 12, 3) := by decide +kernel
theorem dX4_runHours_18 : decode cX4_runHours 18 = .ok (.aload_n 0, 1) := by decide +kernel
theorem dX4_runHours_19 : decode cX4_runHours 19 = .ok (.getfield 28, 3) := by decide +kernel
theorem dX4_runHours_22 : decode cX4_runHours 22 = .ok (.aload_n 0, 1) := by decide +kernel
theorem dX4_runHours_23 : decode cX4_runHours 23 = .ok (.getfield 12, 3) := by decide +kernel
theorem dX4_runHours_26 : decode cX4_runHours 26 = .ok (.getfield 65, 3) := by decide +kernel
theorem dX4_runHours_29 : decode cX4_runHours 29 = .ok (.invokevirtual 68, 3) := by decide +kernel
theorem dX4_runHours_32 : decode cX4_runHours 32 = .ok (.putfield 65, 3) := by decide +kernel
theorem dX4_runHours_35 : decode cX4_runHours 35 = .ok (.aload_n 0, 1) := by decide +kernel
theorem dX4_runHours_36 : decode cX4_runHours 36 = .ok (.iload_n 2, 1) := by decide +kernel
theorem dX4_runHours_37 : decode cX4_runHours 37 = .ok (.invokevirtual 72, 3) := by decide +kernel
theorem dX4_runHours_40 : decode cX4_runHours 40 = .ok (.pop, 1) := by decide +kernel
theorem dX4_runHours_41 : decode cX4_runHours 41 = .ok (.aload_n 0, 1) := by decide +kernel
theorem dX4_runHours_42 : decode cX4_runHours 42 = .ok (.getfield 28, 3) := by decide +kernel
theorem dX4_runHours_45 : decode cX4_runHours 45 = .ok (.invokevirtual 75, 3) := by decide +kernel
theorem dX4_runHours_48 : decode cX4_runHours 48 = .ok (.iinc 4 1, 3) := by decide +kernel
theorem dX4_runHours_51 : decode cX4_runHours 51 = .ok (.goto (-43), 3) := by decide +kernel
theorem dX4_runHours_54 : decode cX4_runHours 54 = .ok (.aload_n 0, 1) := by decide +kernel
theorem dX4_runHours_55 : decode cX4_runHours 55 = .ok (.getfield 56, 3) := by decide +kernel
theorem dX4_runHours_58 : decode cX4_runHours 58 = .ok (.iload_n 3, 1) := by decide +kernel
theorem dX4_runHours_59 : decode cX4_runHours 59 = .ok (.isub, 1) := by decide +kernel
theorem dX4_runHours_60 : decode cX4_runHours 60 = .ok (.ireturn, 1) := by decide +kernel
theorem dX4_passHour_0 : decode cX4_passHour 0 = .ok (.aload_n 0, 1) := by decide +kernel
theorem dX4_passHour_1 : decode cX4_passHour 1 = .ok (.getfield 56, 3) := by decide +kernel
theorem dX4_passHour_4 : decode cX4_passHour 4 = .ok (.istore_n 2, 1) := by decide +kernel
theorem dX4_passHour_5 : decode cX4_passHour 5 = .ok (.aload_n 0, 1) := by decide +kernel
theorem dX4_passHour_6 : decode cX4_passHour 6 = .ok (.dup, 1) := by decide +kernel
theorem dX4_passHour_7 : decode cX4_passHour 7 = .ok (.getfield 49, 3) := by decide +kernel
theorem dX4_passHour_10 : decode cX4_passHour 10 = .ok (.iconst 1, 1) := by decide +kernel
theorem dX4_passHour_11 : decode cX4_passHour 11 = .ok (.iadd, 1) := by decide +kernel
theorem dX4_passHour_12 : decode cX4_passHour 12 = .ok (.putfield 49, 3) := by decide +kernel
theorem dX4_passHour_15 : decode cX4_passHour 15 = .ok (.aload_n 0, 1) := by decide +kernel
theorem dX4_passHour_16 : decode cX4_passHour 16 = .ok (.invokevirtual 78, 3) := by decide +kernel
theorem dX4_passHour_19 : decode cX4_passHour 19 = .ok (.aload_n 0, 1) := by decide +kernel
theorem dX4_passHour_20 : decode cX4_passHour 20 = .ok (.invokevirtual 81, 3) := by decide +kernel
theorem dX4_passHour_23 : decode cX4_passHour 23 = .ok (.aload_n 0, 1) := by decide +kernel
theorem dX4_passHour_24 : decode cX4_passHour 24 = .ok (.getfield 12, 3) := by decide +kernel
theorem dX4_passHour_27 : decode cX4_passHour 27 = .ok (.getfield 84, 3) := by decide +kernel
theorem dX4_passHour_30 : decode cX4_passHour 30 = .ok (.iconst 0, 1) := by decide +kernel
theorem dX4_passHour_31 : decode cX4_passHour 31 = .ok (.invokestatic 87, 3) := by decide +kernel
theorem dX4_passHour_34 : decode cX4_passHour 34 = .ok (.aload_n 0, 1) := by decide +kernel
theorem dX4_passHour_35 : decode cX4_passHour 35 = .ok (.getfield 12, 3) := by decide +kernel
theorem dX4_passHour_38 : decode cX4_passHour 38 = .ok (.getfield 84, 3) := by decide +kernel
theorem dX4_passHour_41 : decode cX4_passHour 41 = .ok (.iconst 0, 1) := by decide +kernel
theorem dX4_passHour_42 : decode cX4_passHour 42 = .ok (.iload_n 1, 1) := by decide +kernel
theorem dX4_passHour_43 : decode cX4_passHour 43 = .ok (.aload_n 0, 1) := by decide +kernel
theorem dX4_passHour_44 : decode cX4_passHour 44 = .ok (.getfield 12, 3) := by decide +kernel
theorem dX4_passHour_47 : decode cX4_passHour 47 = .ok (.getfield 93, 3) := by decide +kernel
theorem dX4_passHour_50 : decode cX4_passHour 50 = .ok (.iconst 0, 1) := by decide +kernel
theorem dX4_passHour_51 : decode cX4_passHour 51 = .ok (.iaload, 1) := by decide +kernel
theorem dX4_passHour_52 : decode cX4_passHour 52 = .ok (.invokestatic 96, 3) := by decide +kernel
theorem dX4_passHour_55 : decode cX4_passHour 55 = .ok (.iastore, 1) := by decide +kernel
theorem dX4_passHour_56 : decode cX4_passHour 56 = .ok (.aload_n 0, 1) := by decide +kernel
theorem dX4_passHour_57 : decode cX4_passHour 57 = .ok (.dup, 1) := by decide +kernel
theorem dX4_passHour_58 : decode cX4_passHour 58 = .ok (.getfield 53, 3) := by decide +kernel
theorem dX4_passHour_61 : decode cX4_passHour 61 = .ok (.aload_n 0, 1) := by decide +kernel
theorem dX4_passHour_62 : decode cX4_passHour 62 = .ok (.getfield 12, 3) := by decide +kernel
theorem dX4_passHour_65 : decode cX4_passHour 65 = .ok (.getfield 84, 3) := by decide +kernel
theorem dX4_passHour_68 : decode cX4_passHour 68 = .ok (.iconst 0, 1) := by decide +kernel
theorem dX4_passHour_69 : decode cX4_passHour 69 = .ok (.iaload, 1) := by decide +kernel
theorem dX4_passHour_70 : decode cX4_passHour 70 = .ok (.iadd, 1) := by decide +kernel
theorem dX4_passHour_71 : decode cX4_passHour 71 = .ok (.putfield 53, 3) := by decide +kernel
theorem dX4_passHour_74 : decode cX4_passHour 74 = .ok (.iconst 0, 1) := by decide +kernel
theorem dX4_passHour_75 : decode cX4_passHour 75 = .ok (.istore_n 3, 1) := by decide +kernel
theorem dX4_passHour_76 : decode cX4_passHour 76 = .ok (.iload_n 3, 1) := by decide +kernel
theorem dX4_passHour_77 : decode cX4_passHour 77 = .ok (.aload_n 0, 1) := by decide +kernel
theorem dX4_passHour_78 : decode cX4_passHour 78 = .ok (.getfield 12, 3) := by decide +kernel
theorem dX4_passHour_81 : decode cX4_passHour 81 = .ok (.getfield 102, 3) := by decide +kernel
theorem dX4_passHour_84 : decode cX4_passHour 84 = .ok (.if_icmp .ge 81, 3) := by decide +kernel
theorem dX4_passHour_87 : decode cX4_passHour 87 = .ok (.aload_n 0, 1) := by decide +kernel
theorem dX4_passHour_88 : decode cX4_passHour 88 = .ok (.getfield 12, 3) := by decide +kernel
theorem dX4_passHour_91 : decode cX4_passHour 91 = .ok (.getfield 84, 3) := by decide +kernel
theorem dX4_passHour_94 : decode cX4_passHour 94 = .ok (.iload_n 3, 1) := by decide +kernel
theorem dX4_passHour_95 : decode cX4_passHour 95 = .ok (.iaload, 1) := by decide +kernel
theorem dX4_passHour_96 : decode cX4_passHour 96 = .ok (.istore 4, 2) := by decide +kernel
theorem dX4_passHour_98 : decode cX4_passHour 98 = .ok (.iload 4, 2) := by decide +kernel
theorem dX4_passHour_100 : decode cX4_passHour 100 = .ok (.aload_n 0, 1) := by decide +kernel
theorem dX4_passHour_101 : decode cX4_passHour 101 = .ok (.iload_n 3, 1) := by decide +kernel
theorem dX4_passHour_102 : decode cX4_passHour 102 = .ok (.iload 4, 2) := by decide +kernel
theorem dX4_passHour_104 : decode cX4_passHour 104 = .ok (.invokevirtual 105, 3) := by decide +kernel
theorem dX4_passHour_107 : decode cX4_passHour 107 = .ok (.isub, 1) := by decide +kernel
theorem dX4_passHour_108 : decode cX4_passHour 108 = .ok (.istore 4, 2) := by decide +kernel
theorem dX4_passHour_110 : decode cX4_passHour 110 = .ok (.iload 4, 2) := by decide +kernel
theorem dX4_passHour_112 : decode cX4_passHour 112 = .ok (.aload_n 0, 1) := by decide +kernel
theorem dX4_passHour_113 : decode cX4_passHour 113 = .ok (.iload_n 3, 1) := by decide +kernel
theorem dX4_passHour_114 : decode cX4_passHour 114 = .ok (.iload 4, 2) := by decide +kernel
theorem dX4_passHour_116 : decode cX4_passHour 116 = .ok (.invokevirtual 108, 3) := by decide +kernel
theorem dX4_passHour_119 : decode cX4_passHour 119 = .ok (.isub, 1) := by decide +kernel
theorem dX4_passHour_120 : decode cX4_passHour 120 = .ok (.istore 4, 2) := by decide +kernel
theorem dX4_passHour_122 : decode cX4_passHour 122 = .ok (.iload 4, 2) := by decide +kernel
theorem dX4_passHour_124 : decode cX4_passHour 124 = .ok (.aload_n 0, 1) := by decide +kernel
theorem dX4_passHour_125 : decode cX4_passHour 125 = .ok (.iload_n 3, 1) := by decide +kernel
theorem dX4_passHour_126 : decode cX4_passHour 126 = .ok (.iload 4, 2) := by decide +kernel
theorem dX4_passHour_128 : decode cX4_passHour 128 = .ok (.invokevirtual 111, 3) := by decide +kernel
theorem dX4_passHour_131 : decode cX4_passHour 131 = .ok (.isub, 1) := by decide +kernel
theorem dX4_passHour_132 : decode cX4_passHour 132 = .ok (.istore 4, 2) := by decide +kernel
theorem dX4_passHour_134 : decode cX4_passHour 134 = .ok (.aload_n 0, 1) := by decide +kernel
theorem dX4_passHour_135 : decode cX4_passHour 135 = .ok (.getfield 12, 3) := by decide +kernel
theorem dX4_passHour_138 : decode cX4_passHour 138 = .ok (.getfield 114, 3) := by decide +kernel
theorem dX4_passHour_141 : decode cX4_passHour 141 = .ok (.iload_n 3, 1) := by decide +kernel
theorem dX4_passHour_142 : decode cX4_passHour 142 = .ok (.dup2, 1) := by decide +kernel
theorem dX4_passHour_143 : decode cX4_passHour 143 = .ok (.iaload, 1) := by decide +kernel
theorem dX4_passHour_144 : decode cX4_passHour 144 = .ok (.iload 4, 2) := by decide +kernel
theorem dX4_passHour_146 : decode cX4_passHour 146 = .ok (.iadd, 1) := by decide +kernel
theorem dX4_passHour_147 : decode cX4_passHour 147 = .ok (.iastore, 1) := by decide +kernel
theorem dX4_passHour_148 : decode cX4_passHour 148 = .ok (.aload_n 0, 1) := by decide +kernel
theorem dX4_passHour_149 : decode cX4_passHour 149 = .ok (.dup, 1) := by decide +kernel
theorem dX4_passHour_150 : decode cX4_passHour 150 = .ok (.getfield 62, 3) := by decide +kernel
theorem dX4_passHour_153 : decode cX4_passHour 153 = .ok (.iload 4, 2) := by decide +kernel
theorem dX4_passHour_155 : decode cX4_passHour 155 = .ok (.iadd, 1) := by decide +kernel
theorem dX4_passHour_156 : decode cX4_passHour 156 = .ok (.putfield 62, 3) := by decide +kernel
theorem dX4_passHour_159 : decode cX4_passHour 159 = .ok (.iinc 3 1, 3) := by decide +kernel
theorem dX4_passHour_162 : decode cX4_passHour 162 = .ok (.goto (-86), 3) := by decide +kernel
theorem dX4_passHour_165 : decode cX4_passHour 165 = .ok (.aload_n 0, 1) := by decide +kernel
theorem dX4_passHour_166 : decode cX4_passHour 166 = .ok (.invokevirtual 116, 3) := by decide +kernel
theorem dX4_passHour_169 : decode cX4_passHour 169 = .ok (.aload_n 0, 1) := by decide +kernel
theorem dX4_passHour_170 : decode cX4_passHour 170 = .ok (.getfield 56, 3) := by decide +kernel
theorem dX4_passHour_173 : decode cX4_passHour 173 = .ok (.iload_n 2, 1) := by decide +kernel
theorem dX4_passHour_174 : decode cX4_passHour 174 = .ok (.isub, 1) := by decide +kernel
theorem dX4_passHour_175 : decode cX4_passHour 175 = .ok (.ireturn, 1) := by decide +kernel
theorem dX4_findCallsBelow_0 : decode cX4_findCallsBelow 0 = .ok (.aload_n 0, 1) := by decide +kernel
theorem dX4_findCallsBelow_1 : decode cX4_findCallsBelow 1 = .ok (.getfield 32, 3) := by decide +kernel
theorem dX4_findCallsBelow_4 : decode cX4_findCallsBelow 4 = .ok (.bipush 100, 2) := by decide +kernel
theorem dX4_findCallsBelow_6 : decode cX4_findCallsBelow 6 = .ok (.invokestatic 87, 3) := by decide +kernel
theorem dX4_findCallsBelow_9 : decode cX4_findCallsBelow 9 = .ok (.aload_n 0, 1) := by decide +kernel
theorem dX4_findCallsBelow_10 : decode cX4_findCallsBelow 10 = .ok (.getfield 36, 3) := by decide +kernel
theorem dX4_findCallsBelow_13 : decode cX4_findCallsBelow 13 = .ok (.bipush 100, 2) := by decide +kernel
theorem dX4_findCallsBelow_15 : decode cX4_findCallsBelow 15 = .ok (.invokestatic 87, 3) := by decide +kernel
theorem dX4_findCallsBelow_18 : decode cX4_findCallsBelow 18 = .ok (.iconst 0, 1) := by decide +kernel
theorem dX4_findCallsBelow_19 : decode cX4_findCallsBelow 19 = .ok (.istore_n 1, 1) := by decide +kernel
theorem dX4_findCallsBelow_20 : decode cX4_findCallsBelow 20 = .ok (.iload_n 1, 1) := by decide +kernel
theorem dX4_findCallsBelow_21 : decode cX4_findCallsBelow 21 = .ok (.aload_n 0, 1) := by decide +kernel
theorem dX4_findCallsBelow_22 : decode cX4_findCallsBelow 22 = .ok (.getfield 21, 3) := by decide +kernel
theorem dX4_findCallsBelow_25 : decode cX4_findCallsBelow 25 = .ok (.getfield 119, 3) := by decide +kernel
theorem dX4_findCallsBelow_28 : decode cX4_findCallsBelow 28 = .ok (.if_icmp .ge 54, 3) := by decide +kernel
theorem dX4_findCallsBelow_31 : decode cX4_findCallsBelow 31 = .ok (.aload_n 0, 1) := by decide +kernel
theorem dX4_findCallsBelow_32 : decode cX4_findCallsBelow 32 = .ok (.getfield 21, 3) := by decide +kernel
theorem dX4_findCallsBelow_35 : decode cX4_findCallsBelow 35 = .ok (.iload_n 1, 1) := by decide +kernel
theorem dX4_findCallsBelow_36 : decode cX4_findCallsBelow 36 = .ok (.invokevirtual 120, 3) := by decide +kernel
theorem dX4_findCallsBelow_39 : decode cX4_findCallsBelow 39 = .ok (.ifCond .eq 37, 3) := by decide +kernel
theorem dX4_findCallsBelow_42 : decode cX4_findCallsBelow 42 = .ok (.aload_n 0, 1) := by decide +kernel
theorem dX4_findCallsBelow_43 : decode cX4_findCallsBelow 43 = .ok (.getfield 21, 3) := by decide +kernel
theorem dX4_findCallsBelow_46 : decode cX4_findCallsBelow 46 = .ok (.getfield 124, 3) := by decide +kernel
theorem dX4_findCallsBelow_49 : decode cX4_findCallsBelow 49 = .ok (.iload_n 1, 1) := by decide +kernel
theorem dX4_findCallsBelow_50 : decode cX4_findCallsBelow 50 = .ok (.iaload, 1) := by decide +kernel
theorem dX4_findCallsBelow_51 : decode cX4_findCallsBelow 51 = .ok (.istore_n 2, 1) := by decide +kernel
theorem dX4_findCallsBelow_52 : decode cX4_findCallsBelow 52 = .ok (.aload_n 0, 1) := by decide +kernel
theorem dX4_findCallsBelow_53 : decode cX4_findCallsBelow 53 = .ok (.getfield 32, 3) := by decide +kernel
theorem dX4_findCallsBelow_56 : decode cX4_findCallsBelow 56 = .ok (.iload_n 2, 1) := by decide +kernel
theorem dX4_findCallsBelow_57 : decode cX4_findCallsBelow 57 = .ok (.aload_n 0, 1) := by decide +kernel
theorem dX4_findCallsBelow_58 : decode cX4_findCallsBelow 58 = .ok (.getfield 32, 3) := by decide +kernel
theorem dX4_findCallsBelow_61 : decode cX4_findCallsBelow 61 = .ok (.iload_n 2, 1) := by decide +kernel
theorem dX4_findCallsBelow_62 : decode cX4_findCallsBelow 62 = .ok (.iaload, 1) := by decide +kernel
theorem dX4_findCallsBelow_63 : decode cX4_findCallsBelow 63 = .ok (.aload_n 0, 1) := by decide +kernel
theorem dX4_findCallsBelow_64 : decode cX4_findCallsBelow 64 = .ok (.getfield 21, 3) := by decide +kernel
theorem dX4_findCallsBelow_67 : decode cX4_findCallsBelow 67 = .ok (.getfield 127, 3) := by decide +kernel
theorem dX4_findCallsBelow_70 : decode cX4_findCallsBelow 70 = .ok (.iload_n 1, 1) := by decide +kernel
theorem dX4_findCallsBelow_71 : decode cX4_findCallsBelow 71 = .ok (.iaload, 1) := by decide +kernel
theorem dX4_findCallsBelow_72 : decode cX4_findCallsBelow 72 = .ok (.invokestatic 96, 3) := by decide +kernel
theorem dX4_findCallsBelow_75 : decode cX4_findCallsBelow 75 = .ok (.iastore, 1) := by decide +kernel
theorem dX4_findCallsBelow_76 : decode cX4_findCallsBelow 76 = .ok (.iinc 1 1, 3) := by decide +kernel
theorem dX4_findCallsBelow_79 : decode cX4_findCallsBelow 79 = .ok (.goto (-59), 3) := by decide +kernel
theorem dX4_findCallsBelow_82 : decode cX4_findCallsBelow 82 = .ok (.aload_n 0, 1) := by decide +kernel
theorem dX4_findCallsBelow_83 : decode cX4_findCallsBelow 83 = .ok (.getfield 12, 3) := by decide +kernel
theorem dX4_findCallsBelow_86 : decode cX4_findCallsBelow 86 = .ok (.getfield 102, 3) := by decide +kernel
theorem dX4_findCallsBelow_89 : decode cX4_findCallsBelow 89 = .ok (.iconst 1, 1) := by decide +kernel
theorem dX4_findCallsBelow_90 : decode cX4_findCallsBelow 90 = .ok (.isub, 1) := by decide +kernel
theorem dX4_findCallsBelow_91 : decode cX4_findCallsBelow 91 = .ok (.istore_n 1, 1) := by decide +kernel
theorem dX4_findCallsBelow_92 : decode cX4_findCallsBelow 92 = .ok (.iload_n 1, 1) := by decide +kernel
theorem dX4_findCallsBelow_93 : decode cX4_findCallsBelow 93 = .ok (.ifCond .le 60, 3) := by decide +kernel
theorem dX4_findCallsBelow_96 : decode cX4_findCallsBelow 96 = .ok (.aload_n 0, 1) := by decide +kernel
theorem dX4_findCallsBelow_97 : decode cX4_findCallsBelow 97 = .ok (.getfield 12, 3) := by decide +kernel
theorem dX4_findCallsBelow_100 : decode cX4_findCallsBelow 100 = .ok (.iload_n 1, 1) := by decide +kernel
theorem dX4_findCallsBelow_101 : decode cX4_findCallsBelow 101 = .ok (.invokevirtual 130, 3) := by decide +kernel
theorem dX4_findCallsBelow_104 : decode cX4_findCallsBelow 104 = .ok (.ifCond .eq 43, 3) := by decide +kernel
theorem dX4_findCallsBelow_107 : decode cX4_findCallsBelow 107 = .ok (.aload_n 0, 1) := by decide +kernel
theorem dX4_findCallsBelow_108 : decode cX4_findCallsBelow 108 = .ok (.getfield 12, 3) := by decide +kernel
theorem dX4_findCallsBelow_111 : decode cX4_findCallsBelow 111 = .ok (.getfield 133, 3) := by decide +kernel
theorem dX4_findCallsBelow_114 : decode cX4_findCallsBelow 114 = .ok (.iload_n 1, 1) := by decide +kernel
theorem dX4_findCallsBelow_115 : decode cX4_findCallsBelow 115 = .ok (.iaload, 1) := by decide +kernel
theorem dX4_findCallsBelow_116 : decode cX4_findCallsBelow 116 = .ok (.istore_n 2, 1) := by decide +kernel
theorem dX4_findCallsBelow_117 : decode cX4_findCallsBelow 117 = .ok (.aload_n 0, 1) := by decide +kernel
theorem dX4_findCallsBelow_118 : decode cX4_findCallsBelow 118 = .ok (.getfield 36, 3) := by decide +kernel
theorem dX4_findCallsBelow_121 : decode cX4_findCallsBelow 121 = .ok (.iload_n 2, 1) := by decide +kernel
theorem dX4_findCallsBelow_122 : decode cX4_findCallsBelow 122 = .ok (.aload_n 0, 1) := by decide +kernel
theorem dX4_findCallsBelow_123 : decode cX4_findCallsBelow 123 = .ok (.getfield 36, 3) := by decide +kernel
theorem dX4_findCallsBelow_126 : decode cX4_findCallsBelow 126 = .ok (.iload_n 2, 1) := by decide +kernel
theorem dX4_findCallsBelow_127 : decode cX4_findCallsBelow 127 = .ok (.iaload, 1) := by decide +kernel
theorem dX4_findCallsBelow_128 : decode cX4_findCallsBelow 128 = .ok (.aload_n 0, 1) := by decide +kernel
theorem dX4_findCallsBelow_129 : decode cX4_findCallsBelow 129 = .ok (.getfield 32, 3) := by decide +kernel
theorem dX4_findCallsBelow_132 : decode cX4_findCallsBelow 132 = .ok (.iload_n 1, 1) := by decide +kernel
theorem dX4_findCallsBelow_133 : decode cX4_findCallsBelow 133 = .ok (.iaload, 1) := by decide +kernel
theorem dX4_findCallsBelow_134 : decode cX4_findCallsBelow 134 = .ok (.aload_n 0, 1) := by decide +kernel
theorem dX4_findCallsBelow_135 : decode cX4_findCallsBelow 135 = .ok (.getfield 36, 3) := by decide +kernel
theorem dX4_findCallsBelow_138 : decode cX4_findCallsBelow 138 = .ok (.iload_n 1, 1) := by decide +kernel
theorem dX4_findCallsBelow_139 : decode cX4_findCallsBelow 139 = .ok (.iaload, 1) := by decide +kernel
theorem dX4_findCallsBelow_140 : decode cX4_findCallsBelow 140 = .ok (.invokestatic 96, 3) := by decide +kernel
theorem dX4_findCallsBelow_143 : decode cX4_findCallsBelow 143 = .ok (.invokestatic 96, 3) := by decide +kernel
theorem dX4_findCallsBelow_146 : decode cX4_findCallsBelow 146 = .ok (.iastore, 1) := by decide +kernel
theorem dX4_findCallsBelow_147 : decode cX4_findCallsBelow 147 = .ok (.iinc 1 (-1), 3) := by decide +kernel
theorem dX4_findCallsBelow_150 : decode cX4_findCallsBelow 150 = .ok (.goto (-58), 3) := by decide +kernel
theorem dX4_findCallsBelow_153 : decode cX4_findCallsBelow 153 = .ok (.return_, 1) := by decide +kernel
theorem dX4_mayTake_0 : decode cX4_mayTake 0 = .ok (.aload_n 0, 1) := by decide +kernel
theorem dX4_mayTake_1 : decode cX4_mayTake 1 = .ok (.getfield 36, 3) := by decide +kernel
theorem dX4_mayTake_4 : decode cX4_mayTake 4 = .ok (.aload_n 0, 1) := by decide +kernel
theorem dX4_mayTake_5 : decode cX4_mayTake 5 = .ok (.getfield 21, 3) := by decide +kernel
theorem dX4_mayTake_8 : decode cX4_mayTake 8 = .ok (.getfield 124, 3) := by decide +kernel
theorem dX4_mayTake_11 : decode cX4_mayTake 11 = .ok (.iload_n 1, 1) := by decide +kernel
theorem dX4_mayTake_12 : decode cX4_mayTake 12 = .ok (.iaload, 1) := by decide +kernel
theorem dX4_mayTake_13 : decode cX4_mayTake 13 = .ok (.iaload, 1) := by decide +kernel
theorem dX4_mayTake_14 : decode cX4_mayTake 14 = .ok (.aload_n 0, 1) := by decide +kernel
theorem dX4_mayTake_15 : decode cX4_mayTake 15 = .ok (.getfield 21, 3) := by decide +kernel
theorem dX4_mayTake_18 : decode cX4_mayTake 18 = .ok (.getfield 127, 3) := by decide +kernel
theorem dX4_mayTake_21 : decode cX4_mayTake 21 = .ok (.iload_n 1, 1) := by decide +kernel
theorem dX4_mayTake_22 : decode cX4_mayTake 22 = .ok (.iaload, 1) := by decide +kernel
theorem dX4_mayTake_23 : decode cX4_mayTake 23 = .ok (.if_icmp .lt 7, 3) := by decide +kernel
theorem dX4_mayTake_26 : decode cX4_mayTake 26 = .ok (.iconst 1, 1) := by decide +kernel
theorem dX4_mayTake_27 : decode cX4_mayTake 27 = .ok (.goto 4, 3) := by decide +kernel
theorem dX4_mayTake_30 : decode cX4_mayTake 30 = .ok (.iconst 0, 1) := by decide +kernel
theorem dX4_mayTake_31 : decode cX4_mayTake 31 = .ok (.ireturn, 1) := by decide +kernel
theorem dX4_findPassingGates_0 : decode cX4_findPassingGates 0 = .ok (.iconst 0, 1) := by decide +kernel
theorem dX4_findPassingGates_1 : decode cX4_findPassingGates 1 = .ok (.istore_n 1, 1) := by decide +kernel
theorem dX4_findPassingGates_2 : decode cX4_findPassingGates 2 = .ok (.iconst 0, 1) := by decide +kernel
theorem dX4_findPassingGates_3 : decode cX4_findPassingGates 3 = .ok (.istore_n 2, 1) := by decide +kernel
theorem dX4_findPassingGates_4 : decode cX4_findPassingGates 4 = .ok (.iload_n 2, 1) := by decide +kernel
theorem dX4_findPassingGates_5 : decode cX4_findPassingGates 5 = .ok (.aload_n 0, 1) := by decide +kernel
theorem dX4_findPassingGates_6 : decode cX4_findPassingGates 6 = .ok (.getfield 21, 3) := by decide +kernel
theorem dX4_findPassingGates_9 : decode cX4_findPassingGates 9 = .ok (.getfield 119, 3) := by decide +kernel
theorem dX4_findPassingGates_12 : decode cX4_findPassingGates 12 = .ok (.if_icmp .ge 34, 3) := by decide +kernel
theorem dX4_findPassingGates_15 : decode cX4_findPassingGates 15 = .ok (.aload_n 0, 1) := by decide +kernel
theorem dX4_findPassingGates_16 : decode cX4_findPassingGates 16 = .ok (.getfield 21, 3) := by decide +kernel
theorem dX4_findPassingGates_19 : decode cX4_findPassingGates 19 = .ok (.iload_n 2, 1) := by decide +kernel
theorem dX4_findPassingGates_20 : decode cX4_findPassingGates 20 = .ok (.invokevirtual 136, 3) := by decide +kernel
theorem dX4_findPassingGates_23 : decode cX4_findPassingGates 23 = .ok (.ifCond .eq 17, 3) := by decide +kernel
theorem dX4_findPassingGates_26 : decode cX4_findPassingGates 26 = .ok (.iload_n 1, 1) := by decide +kernel
theorem dX4_findPassingGates_27 : decode cX4_findPassingGates 27 = .ok (.iconst 1, 1) := by decide +kernel
theorem dX4_findPassingGates_28 : decode cX4_findPassingGates 28 = .ok (.aload_n 0, 1) := by decide +kernel
theorem dX4_findPassingGates_29 : decode cX4_findPassingGates 29 = .ok (.getfield 21, 3) := by decide +kernel
theorem dX4_findPassingGates_32 : decode cX4_findPassingGates 32 = .ok (.getfield 124, 3) := by decide +kernel
theorem dX4_findPassingGates_35 : decode cX4_findPassingGates 35 = .ok (.iload_n 2, 1) := by decide +kernel
theorem dX4_findPassingGates_36 : decode cX4_findPassingGates 36 = .ok (.iaload, 1) := by decide +kernel
theorem dX4_findPassingGates_37 : decode cX4_findPassingGates 37 = .ok (.ishl, 1) := by decide +kernel
theorem dX4_findPassingGates_38 : decode cX4_findPassingGates 38 = .ok (.ior, 1) := by decide +kernel
theorem dX4_findPassingGates_39 : decode cX4_findPassingGates 39 = .ok (.istore_n 1, 1) := by decide +kernel
theorem dX4_findPassingGates_40 : decode cX4_findPassingGates 40 = .ok (.iinc 2 1, 3) := by decide +kernel
theorem dX4_findPassingGates_43 : decode cX4_findPassingGates 43 = .ok (.goto (-39), 3) := by decide +kernel
theorem dX4_findPassingGates_46 : decode cX4_findPassingGates 46 = .ok (.aload_n 0, 1) := by decide +kernel
theorem dX4_findPassingGates_47 : decode cX4_findPassingGates 47 = .ok (.iconst 0, 1) := by decide +kernel
theorem dX4_findPassingGates_48 : decode cX4_findPassingGates 48 = .ok (.putfield 139, 3) := by decide +kernel
theorem dX4_findPassingGates_51 : decode cX4_findPassingGates 51 = .ok (.aload_n 0, 1) := by decide +kernel
theorem dX4_findPassingGates_52 : decode cX4_findPassingGates 52 = .ok (.getfield 12, 3) := by decide +kernel
theorem dX4_findPassingGates_55 : decode cX4_findPassingGates 55 = .ok (.getfield 102, 3) := by decide +kernel
theorem dX4_findPassingGates_58 : decode cX4_findPassingGates 58 = .ok (.iconst 1, 1) := by decide +kernel
theorem dX4_findPassingGates_59 : decode cX4_findPassingGates 59 = .ok (.isub, 1) := by decide +kernel
theorem dX4_findPassingGates_60 : decode cX4_findPassingGates 60 = .ok (.istore_n 2, 1) := by decide +kernel
theorem dX4_findPassingGates_61 : decode cX4_findPassingGates 61 = .ok (.iload_n 2, 1) := by decide +kernel
theorem dX4_findPassingGates_62 : decode cX4_findPassingGates 62 = .ok (.ifCond .le 81, 3) := by decide +kernel
theorem dX4_findPassingGates_65 : decode cX4_findPassingGates 65 = .ok (.iload_n 1, 1) := by decide +kernel
theorem dX4_findPassingGates_66 : decode cX4_findPassingGates 66 = .ok (.iconst 1, 1) := by decide +kernel
theorem dX4_findPassingGates_67 : decode cX4_findPassingGates 67 = .ok (.iload_n 2, 1) := by decide +kernel
theorem dX4_findPassingGates_68 : decode cX4_findPassingGates 68 = .ok (.ishl, 1) := by decide +kernel
theorem dX4_findPassingGates_69 : decode cX4_findPassingGates 69 = .ok (.iand, 1) := by decide +kernel
theorem dX4_findPassingGates_70 : decode cX4_findPassingGates 70 = .ok (.ifCond .eq 7, 3) := by decide +kernel
theorem dX4_findPassingGates_73 : decode cX4_findPassingGates 73 = .ok (.iconst 1, 1) := by decide +kernel
theorem dX4_findPassingGates_74 : decode cX4_findPassingGates 74 = .ok (.goto 4, 3) := by decide +kernel
theorem dX4_findPassingGates_77 : decode cX4_findPassingGates 77 = .ok (.iconst 0, 1) := by decide +kernel
theorem dX4_findPassingGates_78 : decode cX4_findPassingGates 78 = .ok (.istore_n 3, 1) := by decide +kernel
theorem dX4_findPassingGates_79 : decode cX4_findPassingGates 79 = .ok (.iload_n 3, 1) := by decide +kernel
theorem dX4_findPassingGates_80 : decode cX4_findPassingGates 80 = .ok (.ifCond .eq 17, 3) := by decide +kernel
theorem dX4_findPassingGates_83 : decode cX4_findPassingGates 83 = .ok (.iload_n 1, 1) := by decide +kernel
theorem dX4_findPassingGates_84 : decode cX4_findPassingGates 84 = .ok (.iconst 1, 1) := by decide +kernel
theorem dX4_findPassingGates_85 : decode cX4_findPassingGates 85 = .ok (.aload_n 0, 1) := by decide +kernel
theorem dX4_findPassingGates_86 : decode cX4_findPassingGates 86 = .ok (.getfield 12, 3) := by decide +kernel
theorem dX4_findPassingGates_89 : decode cX4_findPassingGates 89 = .ok (.getfield 133, 3) := by decide +kernel
theorem dX4_findPassingGates_92 : decode cX4_findPassingGates 92 = .ok (.iload_n 2, 1) := by decide +kernel
theorem dX4_findPassingGates_93 : decode cX4_findPassingGates 93 = .ok (.iaload, 1) := by decide +kernel
theorem dX4_findPassingGates_94 : decode cX4_findPassingGates 94 = .ok (.ishl, 1) := by decide +kernel
theorem dX4_findPassingGates_95 : decode cX4_findPassingGates 95 = .ok (.ior, 1) := by decide +kernel
theorem dX4_findPassingGates_96 : decode cX4_findPassingGates 96 = .ok (.istore_n 1, 1) := by decide +kernel
theorem dX4_findPassingGates_97 : decode cX4_findPassingGates 97 = .ok (.aload_n 0, 1) := by decide +kernel
theorem dX4_findPassingGates_98 : decode cX4_findPassingGates 98 = .ok (.getfield 12, 3) := by decide +kernel
theorem dX4_findPassingGates_101 : decode cX4_findPassingGates 101 = .ok (.iload_n 2, 1) := by decide +kernel
theorem dX4_findPassingGates_102 : decode cX4_findPassingGates 102 = .ok (.invokevirtual 130, 3) := by decide +kernel
theorem dX4_findPassingGates_105 : decode cX4_findPassingGates 105 = .ok (.ifCond .eq 32, 3) := by decide +kernel
theorem dX4_findPassingGates_108 : decode cX4_findPassingGates 108 = .ok (.aload_n 0, 1) := by decide +kernel
theorem dX4_findPassingGates_109 : decode cX4_findPassingGates 109 = .ok (.getfield 12, 3) := by decide +kernel
theorem dX4_findPassingGates_112 : decode cX4_findPassingGates 112 = .ok (.getfield 142, 3) := by decide +kernel
theorem dX4_findPassingGates_115 : decode cX4_findPassingGates 115 = .ok (.iload_n 2, 1) := by decide +kernel
theorem dX4_findPassingGates_116 : decode cX4_findPassingGates 116 = .ok (.iaload, 1) := by decide +kernel
theorem dX4_findPassingGates_117 : decode cX4_findPassingGates 117 = .ok (.iconst 2, 1) := by decide +kernel
theorem dX4_findPassingGates_118 : decode cX4_findPassingGates 118 = .ok (.if_icmp .ne 7, 3) := by decide +kernel
theorem dX4_findPassingGates_121 : decode cX4_findPassingGates 121 = .ok (.iload_n 3, 1) := by decide +kernel
theorem dX4_findPassingGates_122 : decode cX4_findPassingGates 122 = .ok (.ifCond .eq 15, 3) := by decide +kernel
theorem dX4_findPassingGates_125 : decode cX4_findPassingGates 125 = .ok (.aload_n 0, 1) := by decide +kernel
theorem dX4_findPassingGates_126 : decode cX4_findPassingGates 126 = .ok (.dup, 1) := by decide +kernel
theorem dX4_findPassingGates_127 : decode cX4_findPassingGates 127 = .ok (.getfield 139, 3) := by decide +kernel
theorem dX4_findPassingGates_130 : decode cX4_findPassingGates 130 = .ok (.iconst 1, 1) := by decide +kernel
theorem dX4_findPassingGates_131 : decode cX4_findPassingGates 131 = .ok (.iload_n 2, 1) := by decide +kernel
theorem dX4_findPassingGates_132 : decode cX4_findPassingGates 132 = .ok (.ishl, 1) := by decide +kernel
theorem dX4_findPassingGates_133 : decode cX4_findPassingGates 133 = .ok (.ior, 1) := by decide +kernel
theorem dX4_findPassingGates_134 : decode cX4_findPassingGates 134 = .ok (.putfield 139, 3) := by decide +kernel
theorem dX4_findPassingGates_137 : decode cX4_findPassingGates 137 = .ok (.iinc 2 (-1), 3) := by decide +kernel
theorem dX4_findPassingGates_140 : decode cX4_findPassingGates 140 = .ok (.goto (-79), 3) := by decide +kernel
theorem dX4_findPassingGates_143 : decode cX4_findPassingGates 143 = .ok (.return_, 1) := by decide +kernel
theorem dX4_seepAway_0 : decode cX4_seepAway 0 = .ok (.iload_n 2, 1) := by decide +kernel
theorem dX4_seepAway_1 : decode cX4_seepAway 1 = .ok (.aload_n 0, 1) := by decide +kernel
theorem dX4_seepAway_2 : decode cX4_seepAway 2 = .ok (.getfield 12, 3) := by decide +kernel
theorem dX4_seepAway_5 : decode cX4_seepAway 5 = .ok (.getfield 145, 3) := by decide +kernel
theorem dX4_seepAway_8 : decode cX4_seepAway 8 = .ok (.iload_n 1, 1) := by decide +kernel
theorem dX4_seepAway_9 : decode cX4_seepAway 9 = .ok (.iaload, 1) := by decide +kernel
theorem dX4_seepAway_10 : decode cX4_seepAway 10 = .ok (.imul, 1) := by decide +kernel
theorem dX4_seepAway_11 : decode cX4_seepAway 11 = .ok (.sipush 999, 3) := by decide +kernel
theorem dX4_seepAway_14 : decode cX4_seepAway 14 = .ok (.iadd, 1) := by decide +kernel
theorem dX4_seepAway_15 : decode cX4_seepAway 15 = .ok (.sipush 1000, 3) := by decide +kernel
theorem dX4_seepAway_18 : decode cX4_seepAway 18 = .ok (.idiv, 1) := by decide +kernel
theorem dX4_seepAway_19 : decode cX4_seepAway 19 = .ok (.istore_n 3, 1) := by decide +kernel
theorem dX4_seepAway_20 : decode cX4_seepAway 20 = .ok (.aload_n 0, 1) := by decide +kernel
theorem dX4_seepAway_21 : decode cX4_seepAway 21 = .ok (.getfield 12, 3) := by decide +kernel
theorem dX4_seepAway_24 : decode cX4_seepAway 24 = .ok (.getfield 148, 3) := by decide +kernel
theorem dX4_seepAway_27 : decode cX4_seepAway 27 = .ok (.iload_n 1, 1) := by decide +kernel
theorem dX4_seepAway_28 : decode cX4_seepAway 28 = .ok (.dup2, 1) := by decide +kernel
theorem dX4_seepAway_29 : decode cX4_seepAway 29 = .ok (.iaload, 1) := by decide +kernel
theorem dX4_seepAway_30 : decode cX4_seepAway 30 = .ok (.iload_n 3, 1) := by decide +kernel
theorem dX4_seepAway_31 : decode cX4_seepAway 31 = .ok (.iadd, 1) := by decide +kernel
theorem dX4_seepAway_32 : decode cX4_seepAway 32 = .ok (.iastore, 1) := by decide +kernel
theorem dX4_seepAway_33 : decode cX4_seepAway 33 = .ok (.aload_n 0, 1) := by decide +kernel
theorem dX4_seepAway_34 : decode cX4_seepAway 34 = .ok (.dup, 1) := by decide +kernel
theorem dX4_seepAway_35 : decode cX4_seepAway 35 = .ok (.getfield 59, 3) := by decide +kernel
theorem dX4_seepAway_38 : decode cX4_seepAway 38 = .ok (.iload_n 3, 1) := by decide +kernel
theorem dX4_seepAway_39 : decode cX4_seepAway 39 = .ok (.iadd, 1) := by decide +kernel
theorem dX4_seepAway_40 : decode cX4_seepAway 40 = .ok (.putfield 59, 3) := by decide +kernel
theorem dX4_seepAway_43 : decode cX4_seepAway 43 = .ok (.iload_n 3, 1) := by decide +kernel
theorem dX4_seepAway_44 : decode cX4_seepAway 44 = .ok (.ireturn, 1) := by decide +kernel
theorem dX4_giveToFields_0 : decode cX4_giveToFields 0 = .ok (.iload_n 2, 1) := by decide +kernel
theorem dX4_giveToFields_1 : decode cX4_giveToFields 1 = .ok (.istore_n 3, 1) := by decide +kernel
theorem dX4_giveToFields_2 : decode cX4_giveToFields 2 = .ok (.iconst 0, 1) := by decide +kernel
theorem dX4_giveToFields_3 : decode cX4_giveToFields 3 = .ok (.istore 4, 2) := by decide +kernel
theorem dX4_giveToFields_5 : decode cX4_giveToFields 5 = .ok (.iload 4, 2) := by decide +kernel
theorem dX4_giveToFields_7 : decode cX4_giveToFields 7 = .ok (.aload_n 0, 1) := by decide +kernel
theorem dX4_giveToFields_8 : decode cX4_giveToFields 8 = .ok (.getfield 21, 3) := by decide +kernel
theorem dX4_giveToFields_11 : decode cX4_giveToFields 11 = .ok (.getfield 119, 3) := by decide +kernel
theorem dX4_giveToFields_14 : decode cX4_giveToFields 14 = .ok (.if_icmp .ge 73, 3) := by decide +kernel
theorem dX4_giveToFields_17 : decode cX4_giveToFields 17 = .ok (.aload_n 0, 1) := by decide +kernel
theorem dX4_giveToFields_18 : decode cX4_giveToFields 18 = .ok (.getfield 21, 3) := by decide +kernel
theorem dX4_giveToFields_21 : decode cX4_giveToFields 21 = .ok (.getfield 150, 3) := by decide +kernel
theorem dX4_giveToFields_24 : decode cX4_giveToFields 24 = .ok (.iload 4, 2) := by decide +kernel
theorem dX4_giveToFields_26 : decode cX4_giveToFields 26 = .ok (.iaload, 1) := by decide +kernel
theorem dX4_giveToFields_27 : decode cX4_giveToFields 27 = .ok (.istore 5, 2) := by decide +kernel
theorem dX4_giveToFields_29 : decode cX4_giveToFields 29 = .ok (.aload_n 0, 1) := by decide +kernel
theorem dX4_giveToFields_30 : decode cX4_giveToFields 30 = .ok (.getfield 21, 3) := by decide +kernel
theorem dX4_giveToFields_33 : decode cX4_giveToFields 33 = .ok (.getfield 124, 3) := by decide +kernel
theorem dX4_giveToFields_36 : decode cX4_giveToFields 36 = .ok (.iload 5, 2) := by decide +kernel
theorem dX4_giveToFields_38 : decode cX4_giveToFields 38 = .ok (.iaload, 1) := by decide +kernel
theorem dX4_giveToFields_39 : decode cX4_giveToFields 39 = .ok (.iload_n 1, 1) := by decide +kernel
theorem dX4_giveToFields_40 : decode cX4_giveToFields 40 = .ok (.if_icmp .ne 41, 3) := by decide +kernel
theorem dX4_giveToFields_43 : decode cX4_giveToFields 43 = .ok (.aload_n 0, 1) := by decide +kernel
theorem dX4_giveToFields_44 : decode cX4_giveToFields 44 = .ok (.getfield 21, 3) := by decide +kernel
theorem dX4_giveToFields_47 : decode cX4_giveToFields 47 = .ok (.iload 5, 2) := by decide +kernel
theorem dX4_giveToFields_49 : decode cX4_giveToFields 49 = .ok (.invokevirtual 136, 3) := by decide +kernel
theorem dX4_giveToFields_52 : decode cX4_giveToFields 52 = .ok (.ifCond .eq 29, 3) := by decide +kernel
theorem dX4_giveToFields_55 : decode cX4_giveToFields 55 = .ok (.aload_n 0, 1) := by decide +kernel
theorem dX4_giveToFields_56 : decode cX4_giveToFields 56 = .ok (.iload 5, 2) := by decide +kernel
theorem dX4_giveToFields_58 : decode cX4_giveToFields 58 = .ok (.invokevirtual 153, 3) := by decide +kernel
theorem dX4_giveToFields_61 : decode cX4_giveToFields 61 = .ok (.ifCond .eq 20, 3) := by decide +kernel
theorem dX4_giveToFields_64 : decode cX4_giveToFields 64 = .ok (.iload_n 3, 1) := by decide +kernel
theorem dX4_giveToFields_65 : decode cX4_giveToFields 65 = .ok (.aload_n 0, 1) := by decide +kernel
theorem dX4_giveToFields_66 : decode cX4_giveToFields 66 = .ok (.getfield 21, 3) := by decide +kernel
theorem dX4_giveToFields_69 : decode cX4_giveToFields 69 = .ok (.iload 5, 2) := by decide +kernel
theorem dX4_giveToFields_71 : decode cX4_giveToFields 71 = .ok (.iload_n 3, 1) := by decide +kernel
theorem dX4_giveToFields_72 : decode cX4_giveToFields 72 = .ok (.aload_n 0, 1) := by decide +kernel
theorem dX4_giveToFields_73 : decode cX4_giveToFields 73 = .ok (.getfield 49, 3) := by decide +kernel
theorem dX4_giveToFields_76 : decode cX4_giveToFields 76 = .ok (.invokevirtual 156, 3) := by decide +kernel
theorem dX4_giveToFields_79 : decode cX4_giveToFields 79 = .ok (.isub, 1) := by decide +kernel
theorem dX4_giveToFields_80 : decode cX4_giveToFields 80 = .ok (.istore_n 3, 1) := by decide +kernel
theorem dX4_giveToFields_81 : decode cX4_giveToFields 81 = .ok (.iinc 4 1, 3) := by decide +kernel
theorem dX4_giveToFields_84 : decode cX4_giveToFields 84 = .ok (.goto (-79), 3) := by decide +kernel
theorem dX4_giveToFields_87 : decode cX4_giveToFields 87 = .ok (.aload_n 0, 1) := by decide +kernel
theorem dX4_giveToFields_88 : decode cX4_giveToFields 88 = .ok (.dup, 1) := by decide +kernel
theorem dX4_giveToFields_89 : decode cX4_giveToFields 89 = .ok (.getfield 56, 3) := by decide +kernel
theorem dX4_giveToFields_92 : decode cX4_giveToFields 92 = .ok (.iload_n 2, 1) := by decide +kernel
theorem dX4_giveToFields_93 : decode cX4_giveToFields 93 = .ok (.iload_n 3, 1) := by decide +kernel
theorem dX4_giveToFields_94 : decode cX4_giveToFields 94 = .ok (.isub, 1) := by decide +kernel
theorem dX4_giveToFields_95 : decode cX4_giveToFields 95 = .ok (.iadd, 1) := by decide +kernel
theorem dX4_giveToFields_96 : decode cX4_giveToFields 96 = .ok (.putfield 56, 3) := by decide +kernel
theorem dX4_giveToFields_99 : decode cX4_giveToFields 99 = .ok (.iload_n 2, 1) := by decide +kernel
theorem dX4_giveToFields_100 : decode cX4_giveToFields 100 = .ok (.iload_n 3, 1) := by decide +kernel
theorem dX4_giveToFields_101 : decode cX4_giveToFields 101 = .ok (.isub, 1) := by decide +kernel
theorem dX4_giveToFields_102 : decode cX4_giveToFields 102 = .ok (.ireturn, 1) := by decide +kernel
theorem dX4_partAmongGates_0 : decode cX4_partAmongGates 0 = .ok (.iconst 0, 1) := by decide +kernel
theorem dX4_partAmongGates_1 : decode cX4_partAmongGates 1 = .ok (.istore_n 3, 1) := by decide +kernel
theorem dX4_partAmongGates_2 : decode cX4_partAmongGates 2 = .ok (.iload_n 1, 1) := by decide +kernel
theorem dX4_partAmongGates_3 : decode cX4_partAmongGates 3 = .ok (.iconst 1, 1) := by decide +kernel
theorem dX4_partAmongGates_4 : decode cX4_partAmongGates 4 = .ok (.iadd, 1) := by decide +kernel
theorem dX4_partAmongGates_5 : decode cX4_partAmongGates 5 = .ok (.istore 4, 2) := by decide +kernel
theorem dX4_partAmongGates_7 : decode cX4_partAmongGates 7 = .ok (.iload 4, 2) := by decide +kernel
theorem dX4_partAmongGates_9 : decode cX4_partAmongGates 9 = .ok (.aload_n 0, 1) := by decide +kernel
theorem dX4_partAmongGates_10 : decode cX4_partAmongGates 10 = .ok (.getfield 12, 3) := by decide +kernel
theorem dX4_partAmongGates_13 : decode cX4_partAmongGates 13 = .ok (.getfield 102, 3) := by decide +kernel
theorem dX4_partAmongGates_16 : decode cX4_partAmongGates 16 = .ok (.if_icmp .ge 22, 3) := by decide +kernel
theorem dX4_partAmongGates_19 : decode cX4_partAmongGates 19 = .ok (.aload_n 0, 1) := by decide +kernel
theorem dX4_partAmongGates_20 : decode cX4_partAmongGates 20 = .ok (.iload_n 1, 1) := by decide +kernel
theorem dX4_partAmongGates_21 : decode cX4_partAmongGates 21 = .ok (.iload 4, 2) := by decide +kernel
theorem dX4_partAmongGates_23 : decode cX4_partAmongGates 23 = .ok (.invokevirtual 160, 3) := by decide +kernel
theorem dX4_partAmongGates_26 : decode cX4_partAmongGates 26 = .ok (.ifCond .eq 6, 3) := by decide +kernel
theorem dX4_partAmongGates_29 : decode cX4_partAmongGates 29 = .ok (.iinc 3 1, 3) := by decide +kernel
theorem dX4_partAmongGates_32 : decode cX4_partAmongGates 32 = .ok (.iinc 4 1, 3) := by decide +kernel
theorem dX4_partAmongGates_35 : decode cX4_partAmongGates 35 = .ok (.goto (-28), 3) := by decide +kernel
theorem dX4_partAmongGates_38 : decode cX4_partAmongGates 38 = .ok (.iload_n 3, 1) := by decide +kernel
theorem dX4_partAmongGates_39 : decode cX4_partAmongGates 39 = .ok (.ifCond .ne 5, 3) := by decide +kernel
theorem dX4_partAmongGates_42 : decode cX4_partAmongGates 42 = .ok (.iconst 0, 1) := by decide +kernel
theorem dX4_partAmongGates_43 : decode cX4_partAmongGates 43 = .ok (.ireturn, 1) := by decide +kernel
theorem dX4_partAmongGates_44 : decode cX4_partAmongGates 44 = .ok (.iload_n 2, 1) := by decide +kernel
theorem dX4_partAmongGates_45 : decode cX4_partAmongGates 45 = .ok (.iload_n 3, 1) := by decide +kernel
theorem dX4_partAmongGates_46 : decode cX4_partAmongGates 46 = .ok (.idiv, 1) := by decide +kernel
theorem dX4_partAmongGates_47 : decode cX4_partAmongGates 47 = .ok (.istore 4, 2) := by decide +kernel
theorem dX4_partAmongGates_49 : decode cX4_partAmongGates 49 = .ok (.iload_n 2, 1) := by decide +kernel
theorem dX4_partAmongGates_50 : decode cX4_partAmongGates 50 = .ok (.iload_n 3, 1) := by decide +kernel
theorem dX4_partAmongGates_51 : decode cX4_partAmongGates 51 = .ok (.irem, 1) := by decide +kernel
theorem dX4_partAmongGates_52 : decode cX4_partAmongGates 52 = .ok (.istore 5, 2) := by decide +kernel
theorem dX4_partAmongGates_54 : decode cX4_partAmongGates 54 = .ok (.iconst 0, 1) := by decide +kernel
theorem dX4_partAmongGates_55 : decode cX4_partAmongGates 55 = .ok (.istore 6, 2) := by decide +kernel
theorem dX4_partAmongGates_57 : decode cX4_partAmongGates 57 = .ok (.iload_n 1, 1) := by decide +kernel
theorem dX4_partAmongGates_58 : decode cX4_partAmongGates 58 = .ok (.iconst 1, 1) := by decide +kernel
theorem dX4_partAmongGates_59 : decode cX4_partAmongGates 59 = .ok (.iadd, 1) := by decide +kernel
theorem dX4_partAmongGates_60 : decode cX4_partAmongGates 60 = .ok (.istore 7, 2) := by decide +kernel
theorem dX4_partAmongGates_62 : decode cX4_partAmongGates 62 = .ok (.iload 7, 2) := by decide +kernel
theorem dX4_partAmongGates_64 : decode cX4_partAmongGates 64 = .ok (.aload_n 0, 1) := by decide +kernel
theorem dX4_partAmongGates_65 : decode cX4_partAmongGates 65 = .ok (.getfield 12, 3) := by decide +kernel
theorem dX4_partAmongGates_68 : decode cX4_partAmongGates 68 = .ok (.getfield 102, 3) := by decide +kernel
theorem dX4_partAmongGates_71 : decode cX4_partAmongGates 71 = .ok (.if_icmp .ge 67, 3) := by decide +kernel
theorem dX4_partAmongGates_74 : decode cX4_partAmongGates 74 = .ok (.aload_n 0, 1) := by decide +kernel
theorem dX4_partAmongGates_75 : decode cX4_partAmongGates 75 = .ok (.iload_n 1, 1) := by decide +kernel
theorem dX4_partAmongGates_76 : decode cX4_partAmongGates 76 = .ok (.iload 7, 2) := by decide +kernel
theorem dX4_partAmongGates_78 : decode cX4_partAmongGates 78 = .ok (.invokevirtual 160, 3) := by decide +kernel
theorem dX4_partAmongGates_81 : decode cX4_partAmongGates 81 = .ok (.ifCond .eq 51, 3) := by decide +kernel
theorem dX4_partAmongGates_84 : decode cX4_partAmongGates 84 = .ok (.aload_n 0, 1) := by decide +kernel
theorem dX4_partAmongGates_85 : decode cX4_partAmongGates 85 = .ok (.getfield 12, 3) := by decide +kernel
theorem dX4_partAmongGates_88 : decode cX4_partAmongGates 88 = .ok (.getfield 84, 3) := by decide +kernel
theorem dX4_partAmongGates_91 : decode cX4_partAmongGates 91 = .ok (.iload 7, 2) := by decide +kernel
theorem dX4_partAmongGates_93 : decode cX4_partAmongGates 93 = .ok (.aload_n 0, 1) := by decide +kernel
theorem dX4_partAmongGates_94 : decode cX4_partAmongGates 94 = .ok (.iload 7, 2) := by decide +kernel
theorem dX4_partAmongGates_96 : decode cX4_partAmongGates 96 = .ok (.iload 5, 2) := by decide +kernel
theorem dX4_partAmongGates_98 : decode cX4_partAmongGates 98 = .ok (.ifCond .le 10, 3) := by decide +kernel
theorem dX4_partAmongGates_101 : decode cX4_partAmongGates 101 = .ok (.iload 4, 2) := by decide +kernel
theorem dX4_partAmongGates_103 : decode cX4_partAmongGates 103 = .ok (.iconst 1, 1) := by decide +kernel
theorem dX4_partAmongGates_104 : decode cX4_partAmongGates 104 = .ok (.iadd, 1) := by decide +kernel
theorem dX4_partAmongGates_105 : decode cX4_partAmongGates 105 = .ok (.goto 5, 3) := by decide +kernel
theorem dX4_partAmongGates_108 : decode cX4_partAmongGates 108 = .ok (.iload 4, 2) := by decide +kernel
theorem dX4_partAmongGates_110 : decode cX4_partAmongGates 110 = .ok (.invokevirtual 164, 3) := by decide +kernel
theorem dX4_partAmongGates_113 : decode cX4_partAmongGates 113 = .ok (.iastore, 1) := by decide +kernel
theorem dX4_partAmongGates_114 : decode cX4_partAmongGates 114 = .ok (.iload 6, 2) := by decide +kernel
theorem dX4_partAmongGates_116 : decode cX4_partAmongGates 116 = .ok (.aload_n 0, 1) := by decide +kernel
theorem dX4_partAmongGates_117 : decode cX4_partAmongGates 117 = .ok (.getfield 12, 3) := by decide +kernel
theorem dX4_partAmongGates_120 : decode cX4_partAmongGates 120 = .ok (.getfield 84, 3) := by decide +kernel
theorem dX4_partAmongGates_123 : decode cX4_partAmongGates 123 = .ok (.iload 7, 2) := by decide +kernel
theorem dX4_partAmongGates_125 : decode cX4_partAmongGates 125 = .ok (.iaload, 1) := by decide +kernel
theorem dX4_partAmongGates_126 : decode cX4_partAmongGates 126 = .ok (.iadd, 1) := by decide +kernel
theorem dX4_partAmongGates_127 : decode cX4_partAmongGates 127 = .ok (.istore 6, 2) := by decide +kernel
theorem dX4_partAmongGates_129 : decode cX4_partAmongGates 129 = .ok (.iinc 5 (-1), 3) := by decide +kernel
theorem dX4_partAmongGates_132 : decode cX4_partAmongGates 132 = .ok (.iinc 7 1, 3) := by decide +kernel
theorem dX4_partAmongGates_135 : decode cX4_partAmongGates 135 = .ok (.goto (-73), 3) := by decide +kernel
theorem dX4_partAmongGates_138 : decode cX4_partAmongGates 138 = .ok (.iload 6, 2) := by decide +kernel
theorem dX4_partAmongGates_140 : decode cX4_partAmongGates 140 = .ok (.ireturn, 1) := by decide +kernel
theorem dX4_isPassingFrom_0 : decode cX4_isPassingFrom 0 = .ok (.aload_n 0, 1) := by decide +kernel
theorem dX4_isPassingFrom_1 : decode cX4_isPassingFrom 1 = .ok (.getfield 12, 3) := by decide +kernel
theorem dX4_isPassingFrom_4 : decode cX4_isPassingFrom 4 = .ok (.getfield 133, 3) := by decide +kernel
theorem dX4_isPassingFrom_7 : decode cX4_isPassingFrom 7 = .ok (.iload_n 2, 1) := by decide +kernel
theorem dX4_isPassingFrom_8 : decode cX4_isPassingFrom 8 = .ok (.iaload, 1) := by decide +kernel
theorem dX4_isPassingFrom_9 : decode cX4_isPassingFrom 9 = .ok (.iload_n 1, 1) := by decide +kernel
theorem dX4_isPassingFrom_10 : decode cX4_isPassingFrom 10 = .ok (.if_icmp .ne 18, 3) := by decide +kernel
theorem dX4_isPassingFrom_13 : decode cX4_isPassingFrom 13 = .ok (.aload_n 0, 1) := by decide +kernel
theorem dX4_isPassingFrom_14 : decode cX4_isPassingFrom 14 = .ok (.getfield 139, 3) := by decide +kernel
theorem dX4_isPassingFrom_17 : decode cX4_isPassingFrom 17 = .ok (.iconst 1, 1) := by decide +kernel
theorem dX4_isPassingFrom_18 : decode cX4_isPassingFrom 18 = .ok (.iload_n 2, 1) := by decide +kernel
theorem dX4_isPassingFrom_19 : decode cX4_isPassingFrom 19 = .ok (.ishl, 1) := by decide +kernel
theorem dX4_isPassingFrom_20 : decode cX4_isPassingFrom 20 = .ok (.iand, 1) := by decide +kernel
theorem dX4_isPassingFrom_21 : decode cX4_isPassingFrom 21 = .ok (.ifCond .eq 7, 3) := by decide +kernel
theorem dX4_isPassingFrom_24 : decode cX4_isPassingFrom 24 = .ok (.iconst 1, 1) := by decide +kernel
theorem dX4_isPassingFrom_25 : decode cX4_isPassingFrom 25 = .ok (.goto 4, 3) := by decide +kernel
theorem dX4_isPassingFrom_28 : decode cX4_isPassingFrom 28 = .ok (.iconst 0, 1) := by decide +kernel
theorem dX4_isPassingFrom_29 : decode cX4_isPassingFrom 29 = .ok (.ireturn, 1) := by decide +kernel
theorem dX4_throughGate_0 : decode cX4_throughGate 0 = .ok (.aload_n 0, 1) := by decide +kernel
theorem dX4_throughGate_1 : decode cX4_throughGate 1 = .ok (.getfield 12, 3) := by decide +kernel
theorem dX4_throughGate_4 : decode cX4_throughGate 4 = .ok (.getfield 142, 3) := by decide +kernel
theorem dX4_throughGate_7 : decode cX4_throughGate 7 = .ok (.iload_n 1, 1) := by decide +kernel
theorem dX4_throughGate_8 : decode cX4_throughGate 8 = .ok (.iaload, 1) := by decide +kernel
theorem dX4_throughGate_9 : decode cX4_throughGate 9 = .ok (.iconst 1, 1) := by decide +kernel
theorem dX4_throughGate_10 : decode cX4_throughGate 10 = .ok (.if_icmp .ne 11, 3) := by decide +kernel
theorem dX4_throughGate_13 : decode cX4_throughGate 13 = .ok (.iload_n 2, 1) := by decide +kernel
theorem dX4_throughGate_14 : decode cX4_throughGate 14 = .ok (.iconst 1, 1) := by decide +kernel
theorem dX4_throughGate_15 : decode cX4_throughGate 15 = .ok (.iadd, 1) := by decide +kernel
theorem dX4_throughGate_16 : decode cX4_throughGate 16 = .ok (.iconst 2, 1) := by decide +kernel
theorem dX4_throughGate_17 : decode cX4_throughGate 17 = .ok (.idiv, 1) := by decide +kernel
theorem dX4_throughGate_18 : decode cX4_throughGate 18 = .ok (.goto 4, 3) := by decide +kernel
theorem dX4_throughGate_21 : decode cX4_throughGate 21 = .ok (.iload_n 2, 1) := by decide +kernel
theorem dX4_throughGate_22 : decode cX4_throughGate 22 = .ok (.istore_n 3, 1) := by decide +kernel
theorem dX4_throughGate_23 : decode cX4_throughGate 23 = .ok (.iload_n 3, 1) := by decide +kernel
theorem dX4_throughGate_24 : decode cX4_throughGate 24 = .ok (.aload_n 0, 1) := by decide +kernel
theorem dX4_throughGate_25 : decode cX4_throughGate 25 = .ok (.getfield 12, 3) := by decide +kernel
theorem dX4_throughGate_28 : decode cX4_throughGate 28 = .ok (.getfield 93, 3) := by decide +kernel
theorem dX4_throughGate_31 : decode cX4_throughGate 31 = .ok (.iload_n 1, 1) := by decide +kernel
theorem dX4_throughGate_32 : decode cX4_throughGate 32 = .ok (.iaload, 1) := by decide +kernel
theorem dX4_throughGate_33 : decode cX4_throughGate 33 = .ok (.invokestatic 96, 3) := by decide +kernel
theorem dX4_throughGate_36 : decode cX4_throughGate 36 = .ok (.ireturn, 1) := by decide +kernel
theorem dX4_endCalls_0 : decode cX4_endCalls 0 = .ok (.aload_n 0, 1) := by decide +kernel
theorem dX4_endCalls_1 : decode cX4_endCalls 1 = .ok (.getfield 21, 3) := by decide +kernel
theorem dX4_endCalls_4 : decode cX4_endCalls 4 = .ok (.dup, 1) := by decide +kernel
theorem dX4_endCalls_5 : decode cX4_endCalls 5 = .ok (.getfield 167, 3) := by decide +kernel
theorem dX4_endCalls_8 : decode cX4_endCalls 8 = .ok (.aload_n 0, 1) := by decide +kernel
theorem dX4_endCalls_9 : decode cX4_endCalls 9 = .ok (.getfield 21, 3) := by decide +kernel
theorem dX4_endCalls_12 : decode cX4_endCalls 12 = .ok (.invokevirtual 170, 3) := by decide +kernel
theorem dX4_endCalls_15 : decode cX4_endCalls 15 = .ok (.iand, 1) := by decide +kernel
theorem dX4_endCalls_16 : decode cX4_endCalls 16 = .ok (.putfield 167, 3) := by decide +kernel
theorem dX4_endCalls_19 : decode cX4_endCalls 19 = .ok (.return_, 1) := by decide +kernel
theorem dX5_init_0 : decode cX5_init 0 = .ok (.aload_n 0, 1) := by decide +kernel
theorem dX5_init_1 : decode cX5_init 1 = .ok (.invokespecial 3, 3) := by decide +kernel
theorem dX5_init_4 : decode cX5_init 4 = .ok (.aload_n 0, 1) := by decide +kernel
theorem dX5_init_5 : decode cX5_init 5 = .ok (.bipush 8, 2) := by decide +kernel
theorem dX5_init_7 : decode cX5_init 7 = .ok (.newarray .int, 2) := by decide +kernel
theorem dX5_init_9 : decode cX5_init 9 = .ok (.putfield 9, 3) := by decide +kernel
theorem dX5_init_12 : decode cX5_init 12 = .ok (.aload_n 0, 1) := by decide +kernel
theorem dX5_init_13 : decode cX5_init 13 = .ok (.bipush 8, 2) := by decide +kernel
theorem dX5_init_15 : decode cX5_init 15 = .ok (.newarray .int, 2) := by decide +kernel
theorem dX5_init_17 : decode cX5_init 17 = .ok (.putfield 15, 3) := by decide +kernel
theorem dX5_init_20 : decode cX5_init 20 = .ok (.return_, 1) := by decide +kernel
theorem dX5_become_0 : decode cX5_become 0 = .ok (.aload_n 0, 1) := by decide +kernel
theorem dX5_become_1 : decode cX5_become 1 = .ok (.aload_n 1, 1) := by decide +kernel
theorem dX5_become_2 : decode cX5_become 2 = .ok (.getfield 18, 3) := by decide +kernel
theorem dX5_become_5 : decode cX5_become 5 = .ok (.putfield 18, 3) := by decide +kernel
theorem dX5_become_8 : decode cX5_become 8 = .ok (.aload_n 0, 1) := by decide +kernel
theorem dX5_become_9 : decode cX5_become 9 = .ok (.aload_n 1, 1) := by decide +kernel
theorem dX5_become_10 : decode cX5_become 10 = .ok (.getfield 22, 3) := by decide +kernel
theorem dX5_become_13 : decode cX5_become 13 = .ok (.putfield 22, 3) := by decide +kernel
theorem dX5_become_16 : decode cX5_become 16 = .ok (.aload_n 0, 1) := by decide +kernel
theorem dX5_become_17 : decode cX5_become 17 = .ok (.aload_n 1, 1) := by decide +kernel
theorem dX5_become_18 : decode cX5_become 18 = .ok (.getfield 25, 3) := by decide +kernel
theorem dX5_become_21 : decode cX5_become 21 = .ok (.putfield 25, 3) := by decide +kernel
theorem dX5_become_24 : decode cX5_become 24 = .ok (.aload_n 1, 1) := by decide +kernel
theorem dX5_become_25 : decode cX5_become 25 = .ok (.getfield 9, 3) := by decide +kernel
theorem dX5_become_28 : decode cX5_become 28 = .ok (.iconst 0, 1) := by decide +kernel
theorem dX5_become_29 : decode cX5_become 29 = .ok (.aload_n 0, 1) := by decide +kernel
theorem dX5_become_30 : decode cX5_become 30 = .ok (.getfield 9, 3) := by decide +kernel
theorem dX5_become_33 : decode cX5_become 33 = .ok (.iconst 0, 1) := by decide +kernel
theorem dX5_become_34 : decode cX5_become 34 = .ok (.bipush 8, 2) := by decide +kernel
theorem dX5_become_36 : decode cX5_become 36 = .ok (.invokestatic 28, 3) := by decide +kernel
theorem dX5_become_39 : decode cX5_become 39 = .ok (.aload_n 1, 1) := by decide +kernel
theorem dX5_become_40 : decode cX5_become 40 = .ok (.getfield 15, 3) := by decide +kernel
theorem dX5_become_43 : decode cX5_become 43 = .ok (.iconst 0, 1) := by decide +kernel
theorem dX5_become_44 : decode cX5_become 44 = .ok (.aload_n 0, 1) := by decide +kernel
theorem dX5_become_45 : decode cX5_become 45 = .ok (.getfield 15, 3) := by decide +kernel
theorem dX5_become_48 : decode cX5_become 48 = .ok (.iconst 0, 1) := by decide +kernel
theorem dX5_become_49 : decode cX5_become 49 = .ok (.bipush 8, 2) := by decide +kernel
theorem dX5_become_51 : decode cX5_become 51 = .ok (.invokestatic 28, 3) := by decide +kernel
theorem dX5_become_54 : decode cX5_become 54 = .ok (.return_, 1) := by decide +kernel
theorem dX5_has_0 : decode cX5_has 0 = .ok (.iload_n 1, 1) := by decide +kernel
theorem dX5_has_1 : decode cX5_has 1 = .ok (.ifCond .lt 15, 3) := by decide +kernel
theorem dX5_has_4 : decode cX5_has 4 = .ok (.iload_n 1, 1) := by decide +kernel
theorem dX5_has_5 : decode cX5_has 5 = .ok (.aload_n 0, 1) := by decide +kernel
theorem dX5_has_6 : decode cX5_has 6 = .ok (.getfield 18, 3) := by decide +kernel
theorem dX5_has_9 : decode cX5_has 9 = .ok (.if_icmp .ge 7, 3) := by decide +kernel
theorem dX5_has_12 : decode cX5_has 12 = .ok (.iconst 1, 1) := by decide +kernel
theorem dX5_has_13 : decode cX5_has 13 = .ok (.goto 4, 3) := by decide +kernel
theorem dX5_has_16 : decode cX5_has 16 = .ok (.iconst 0, 1) := by decide +kernel
theorem dX5_has_17 : decode cX5_has 17 = .ok (.ireturn, 1) := by decide +kernel
theorem dX5_add_0 : decode cX5_add 0 = .ok (.aload_n 0, 1) := by decide +kernel
theorem dX5_add_1 : decode cX5_add 1 = .ok (.getfield 9, 3) := by decide +kernel
theorem dX5_add_4 : decode cX5_add 4 = .ok (.aload_n 0, 1) := by decide +kernel
theorem dX5_add_5 : decode cX5_add 5 = .ok (.getfield 18, 3) := by decide +kernel
theorem dX5_add_8 : decode cX5_add 8 = .ok (.iload_n 1, 1) := by decide +kernel
theorem dX5_add_9 : decode cX5_add 9 = .ok (.iastore, 1) := by decide +kernel
theorem dX5_add_10 : decode cX5_add 10 = .ok (.aload_n 0, 1) := by decide +kernel
theorem dX5_add_11 : decode cX5_add 11 = .ok (.getfield 15, 3) := by decide +kernel
theorem dX5_add_14 : decode cX5_add 14 = .ok (.aload_n 0, 1) := by decide +kernel
theorem dX5_add_15 : decode cX5_add 15 = .ok (.getfield 18, 3) := by decide +kernel
theorem dX5_add_18 : decode cX5_add 18 = .ok (.iload_n 2, 1) := by decide +kernel
theorem dX5_add_19 : decode cX5_add 19 = .ok (.iastore, 1) := by decide +kernel
theorem dX5_add_20 : decode cX5_add 20 = .ok (.aload_n 0, 1) := by decide +kernel
theorem dX5_add_21 : decode cX5_add 21 = .ok (.dup, 1) := by decide +kernel
theorem dX5_add_22 : decode cX5_add 22 = .ok (.getfield 18, 3) := by decide +kernel
theorem dX5_add_25 : decode cX5_add 25 = .ok (.iconst 1, 1) := by decide +kernel
theorem dX5_add_26 : decode cX5_add 26 = .ok (.iadd, 1) := by decide +kernel
theorem dX5_add_27 : decode cX5_add 27 = .ok (.putfield 18, 3) := by decide +kernel
theorem dX5_add_30 : decode cX5_add 30 = .ok (.aload_n 0, 1) := by decide +kernel
theorem dX5_add_31 : decode cX5_add 31 = .ok (.invokevirtual 34, 3) := by decide +kernel
theorem dX5_add_34 : decode cX5_add 34 = .ok (.aload_n 0, 1) := by decide +kernel
theorem dX5_add_35 : decode cX5_add 35 = .ok (.getfield 18, 3) := by decide +kernel
theorem dX5_add_38 : decode cX5_add 38 = .ok (.ireturn, 1) := by decide +kernel
theorem dX5_removeAll_0 : decode cX5_removeAll 0 = .ok (.aload_n 0, 1) := by decide +kernel
theorem dX5_removeAll_1 : decode cX5_removeAll 1 = .ok (.getfield 18, 3) := by decide +kernel
theorem dX5_removeAll_4 : decode cX5_removeAll 4 = .ok (.istore_n 1, 1) := by decide +kernel
theorem dX5_removeAll_5 : decode cX5_removeAll 5 = .ok (.aload_n 0, 1) := by decide +kernel
theorem dX5_removeAll_6 : decode cX5_removeAll 6 = .ok (.iconst 0, 1) := by decide +kernel
theorem dX5_removeAll_7 : decode cX5_removeAll 7 = .ok (.putfield 18, 3) := by decide +kernel
theorem dX5_removeAll_10 : decode cX5_removeAll 10 = .ok (.aload_n 0, 1) := by decide +kernel
theorem dX5_removeAll_11 : decode cX5_removeAll 11 = .ok (.invokevirtual 34, 3) := by decide +kernel
theorem dX5_removeAll_14 : decode cX5_removeAll 14 = .ok (.iload_n 1, 1) := by decide +kernel
theorem dX5_removeAll_15 : decode cX5_removeAll 15 = .ok (.ireturn, 1) := by decide +kernel
theorem dX5_beginAgain_0 : decode cX5_beginAgain 0 = .ok (.aload_n 0, 1) := by decide +kernel
theorem dX5_beginAgain_1 : decode cX5_beginAgain 1 = .ok (.iconst 0, 1) := by decide +kernel
theorem dX5_beginAgain_2 : decode cX5_beginAgain 2 = .ok (.putfield 22, 3) := by decide +kernel
theorem dX5_beginAgain_5 : decode cX5_beginAgain 5 = .ok (.aload_n 0, 1) := by decide +kernel
theorem dX5_beginAgain_6 : decode cX5_beginAgain 6 = .ok (.iconst 0, 1) := by decide +kernel
theorem dX5_beginAgain_7 : decode cX5_beginAgain 7 = .ok (.putfield 25, 3) := by decide +kernel
theorem dX5_beginAgain_10 : decode cX5_beginAgain 10 = .ok (.return_, 1) := by decide +kernel
theorem dX5_gatesInNextHour_0 : decode cX5_gatesInNextHour 0 = .ok (.aload_n 0, 1) := by decide +kernel
theorem dX5_gatesInNextHour_1 : decode cX5_gatesInNextHour 1 = .ok (.getfield 18, 3) := by decide +kernel
theorem dX5_gatesInNextHour_4 : decode cX5_gatesInNextHour 4 = .ok (.ifCond .le 22, 3) := by decide +kernel
theorem dX5_gatesInNextHour_7 : decode cX5_gatesInNextHour 7 = .ok (.aload_n 0, 1) := by decide +kernel
theorem dX5_gatesInNextHour_8 : decode cX5_gatesInNextHour 8 = .ok (.getfield 25, 3) := by decide +kernel
theorem dX5_gatesInNextHour_11 : decode cX5_gatesInNextHour 11 = .ok (.ifCond .ne 15, 3) := by decide +kernel
theorem dX5_gatesInNextHour_14 : decode cX5_gatesInNextHour 14 = .ok (.aload_n 0, 1) := by decide +kernel
theorem dX5_gatesInNextHour_15 : decode cX5_gatesInNextHour 15 = .ok (.getfield 9, 3) := by decide +kernel
theorem dX5_gatesInNextHour_18 : decode cX5_gatesInNextHour 18 = .ok (.aload_n 0, 1) := by decide +kernel
theorem dX5_gatesInNextHour_19 : decode cX5_gatesInNextHour 19 = .ok (.getfield 22, 3) := by decide +kernel
theorem dX5_gatesInNextHour_22 : decode cX5_gatesInNextHour 22 = .ok (.iaload, 1) := by decide +kernel
theorem dX5_gatesInNextHour_23 : decode cX5_gatesInNextHour 23 = .ok (.goto 4, 3) := by decide +kernel
theorem dX5_gatesInNextHour_26 : decode cX5_gatesInNextHour 26 = .ok (.iload_n 1, 1) := by decide +kernel
theorem dX5_gatesInNextHour_27 : decode cX5_gatesInNextHour 27 = .ok (.ireturn, 1) := by decide +kernel
theorem dX5_goOn_0 : decode cX5_goOn 0 = .ok (.aload_n 0, 1) := by decide +kernel
theorem dX5_goOn_1 : decode cX5_goOn 1 = .ok (.getfield 18, 3) := by decide +kernel
theorem dX5_goOn_4 : decode cX5_goOn 4 = .ok (.ifCond .ne 4, 3) := by decide +kernel
theorem dX5_goOn_7 : decode cX5_goOn 7 = .ok (.return_, 1) := by decide +kernel
theorem dX5_goOn_8 : decode cX5_goOn 8 = .ok (.aload_n 0, 1) := by decide +kernel
theorem dX5_goOn_9 : decode cX5_goOn 9 = .ok (.dup, 1) := by decide +kernel
theorem dX5_goOn_10 : decode cX5_goOn 10 = .ok (.getfield 25, 3) := by decide +kernel
theorem dX5_goOn_13 : decode cX5_goOn 13 = .ok (.iconst 1, 1) := by decide +kernel
theorem dX5_goOn_14 : decode cX5_goOn 14 = .ok (.iadd, 1) := by decide +kernel
theorem dX5_goOn_15 : decode cX5_goOn 15 = .ok (.putfield 25, 3) := by decide +kernel
theorem dX5_goOn_18 : decode cX5_goOn 18 = .ok (.aload_n 0, 1) := by decide +kernel
theorem dX5_goOn_19 : decode cX5_goOn 19 = .ok (.getfield 25, 3) := by decide +kernel
theorem dX5_goOn_22 : decode cX5_goOn 22 = .ok (.aload_n 0, 1) := by decide +kernel
theorem dX5_goOn_23 : decode cX5_goOn 23 = .ok (.getfield 15, 3) := by decide +kernel
theorem dX5_goOn_26 : decode cX5_goOn 26 = .ok (.aload_n 0, 1) := by decide +kernel
theorem dX5_goOn_27 : decode cX5_goOn 27 = .ok (.getfield 22, 3) := by decide +kernel
theorem dX5_goOn_30 : decode cX5_goOn 30 = .ok (.iaload, 1) := by decide +kernel
theorem dX5_goOn_31 : decode cX5_goOn 31 = .ok (.if_icmp .lt 35, 3) := by decide +kernel
theorem dX5_goOn_34 : decode cX5_goOn 34 = .ok (.aload_n 0, 1) := by decide +kernel
theorem dX5_goOn_35 : decode cX5_goOn 35 = .ok (.iconst 0, 1) := by decide +kernel
theorem dX5_goOn_36 : decode cX5_goOn 36 = .ok (.putfield 25, 3) := by decide +kernel
theorem dX5_goOn_39 : decode cX5_goOn 39 = .ok (.aload_n 0, 1) := by decide +kernel
theorem dX5_goOn_40 : decode cX5_goOn 40 = .ok (.aload_n 0, 1) := by decide +kernel
theorem dX5_goOn_41 : decode cX5_goOn 41 = .ok (.getfield 22, 3) := by decide +kernel
theorem dX5_goOn_44 : decode cX5_goOn 44 = .ok (.iconst 1, 1) := by decide +kernel
theorem dX5_goOn_45 : decode cX5_goOn 45 = .ok (.iadd, 1) := by decide +kernel
theorem dX5_goOn_46 : decode cX5_goOn 46 = .ok (.aload_n 0, 1) := by decide +kernel
theorem dX5_goOn_47 : decode cX5_goOn 47 = .ok (.getfield 18, 3) := by decide +kernel
theorem dX5_goOn_50 : decode cX5_goOn 50 = .ok (.if_icmp .ge 12, 3) := by decide +kernel
theorem dX5_goOn_53 : decode cX5_goOn 53 = .ok (.aload_n 0, 1) := by decide +kernel
theorem dX5_goOn_54 : decode cX5_goOn 54 = .ok (.getfield 22, 3) := by decide +kernel
theorem dX5_goOn_57 : decode cX5_goOn 57 = .ok (.iconst 1, 1) := by decide +kernel
theorem dX5_goOn_58 : decode cX5_goOn 58 = .ok (.iadd, 1) := by decide +kernel
theorem dX5_goOn_59 : decode cX5_goOn 59 = .ok (.goto 4, 3) := by decide +kernel
theorem dX5_goOn_62 : decode cX5_goOn 62 = .ok (.iconst 0, 1) := by decide +kernel
theorem dX5_goOn_63 : decode cX5_goOn 63 = .ok (.putfield 22, 3) := by decide +kernel
theorem dX5_goOn_66 : decode cX5_goOn 66 = .ok (.return_, 1) := by decide +kernel
theorem dX6_init_0 : decode cX6_init 0 = .ok (.aload_n 0, 1) := by decide +kernel
theorem dX6_init_1 : decode cX6_init 1 = .ok (.invokespecial 3, 3) := by decide +kernel
theorem dX6_init_4 : decode cX6_init 4 = .ok (.aload_n 0, 1) := by decide +kernel
theorem dX6_init_5 : decode cX6_init 5 = .ok (.new 9, 3) := by decide +kernel
theorem dX6_init_8 : decode cX6_init 8 = .ok (.dup, 1) := by decide +kernel
theorem dX6_init_9 : decode cX6_init 9 = .ok (.invokespecial 11, 3) := by decide +kernel
theorem dX6_init_12 : decode cX6_init 12 = .ok (.putfield 12, 3) := by decide +kernel
theorem dX6_init_15 : decode cX6_init 15 = .ok (.aload_n 0, 1) := by decide +kernel
theorem dX6_init_16 : decode cX6_init 16 = .ok (.new 9, 3) := by decide +kernel
theorem dX6_init_19 : decode cX6_init 19 = .ok (.dup, 1) := by decide +kernel
theorem dX6_init_20 : decode cX6_init 20 = .ok (.invokespecial 11, 3) := by decide +kernel
theorem dX6_init_23 : decode cX6_init 23 = .ok (.putfield 16, 3) := by decide +kernel
theorem dX6_init_26 : decode cX6_init 26 = .ok (.aload_n 0, 1) := by decide +kernel
theorem dX6_init_27 : decode cX6_init 27 = .ok (.new 19, 3) := by decide +kernel
theorem dX6_init_30 : decode cX6_init 30 = .ok (.dup, 1) := by decide +kernel
theorem dX6_init_31 : decode cX6_init 31 = .ok (.invokespecial 21, 3) := by decide +kernel
theorem dX6_init_34 : decode cX6_init 34 = .ok (.putfield 22, 3) := by decide +kernel
theorem dX6_init_37 : decode cX6_init 37 = .ok (.aload_n 0, 1) := by decide +kernel
theorem dX6_init_38 : decode cX6_init 38 = .ok (.new 26, 3) := by decide +kernel
theorem dX6_init_41 : decode cX6_init 41 = .ok (.dup, 1) := by decide +kernel
theorem dX6_init_42 : decode cX6_init 42 = .ok (.invokespecial 28, 3) := by decide +kernel
theorem dX6_init_45 : decode cX6_init 45 = .ok (.putfield 29, 3) := by decide +kernel
theorem dX6_init_48 : decode cX6_init 48 = .ok (.return_, 1) := by decide +kernel
theorem dX6_canal_0 : decode cX6_canal 0 = .ok (.aload_n 0, 1) := by decide +kernel
theorem dX6_canal_1 : decode cX6_canal 1 = .ok (.getfield 12, 3) := by decide +kernel
theorem dX6_canal_4 : decode cX6_canal 4 = .ok (.getfield 33, 3) := by decide +kernel
theorem dX6_canal_7 : decode cX6_canal 7 = .ok (.iload_n 1, 1) := by decide +kernel
theorem dX6_canal_8 : decode cX6_canal 8 = .ok (.invokevirtual 37, 3) := by decide +kernel
theorem dX6_canal_11 : decode cX6_canal 11 = .ok (.ifCond .eq 35, 3) := by decide +kernel
theorem dX6_canal_14 : decode cX6_canal 14 = .ok (.iload_n 2, 1) := by decide +kernel
theorem dX6_canal_15 : decode cX6_canal 15 = .ok (.iconst 0, 1) := by decide +kernel
theorem dX6_canal_16 : decode cX6_canal 16 = .ok (.iconst 2, 1) := by decide +kernel
theorem dX6_canal_17 : decode cX6_canal 17 = .ok (.invokestatic 43, 3) := by decide +kernel
theorem dX6_canal_20 : decode cX6_canal 20 = .ok (.ifCond .ne 26, 3) := by decide +kernel
theorem dX6_canal_23 : decode cX6_canal 23 = .ok (.iload_n 3, 1) := by decide +kernel
theorem dX6_canal_24 : decode cX6_canal 24 = .ok (.iconst 1, 1) := by decide +kernel
theorem dX6_canal_25 : decode cX6_canal 25 = .ok (.sipush 500, 3) := by decide +kernel
theorem dX6_canal_28 : decode cX6_canal 28 = .ok (.invokestatic 43, 3) := by decide +kernel
theorem dX6_canal_31 : decode cX6_canal 31 = .ok (.ifCond .ne 15, 3) := by decide +kernel
theorem dX6_canal_34 : decode cX6_canal 34 = .ok (.iload 4, 2) := by decide +kernel
theorem dX6_canal_36 : decode cX6_canal 36 = .ok (.iconst 0, 1) := by decide +kernel
theorem dX6_canal_37 : decode cX6_canal 37 = .ok (.sipush 500, 3) := by decide +kernel
theorem dX6_canal_40 : decode cX6_canal 40 = .ok (.invokestatic 43, 3) := by decide +kernel
theorem dX6_canal_43 : decode cX6_canal 43 = .ok (.ifCond .eq 6, 3) := by decide +kernel
theorem dX6_canal_46 : decode cX6_canal 46 = .ok (.ldc 47, 2) := by decide +kernel
theorem dX6_canal_48 : decode cX6_canal 48 = .ok (.ireturn, 1) := by decide +kernel
theorem dX6_canal_49 : decode cX6_canal 49 = .ok (.aload_n 0, 1) := by decide +kernel
theorem dX6_canal_50 : decode cX6_canal 50 = .ok (.getfield 12, 3) := by decide +kernel
theorem dX6_canal_53 : decode cX6_canal 53 = .ok (.getfield 33, 3) := by decide +kernel
theorem dX6_canal_56 : decode cX6_canal 56 = .ok (.getfield 48, 3) := by decide +kernel
theorem dX6_canal_59 : decode cX6_canal 59 = .ok (.bipush 8, 2) := by decide +kernel
theorem dX6_canal_61 : decode cX6_canal 61 = .ok (.if_icmp .lt 6, 3) := by decide +kernel
theorem dX6_canal_64 : decode cX6_canal 64 = .ok (.ldc 52, 2) := by decide +kernel
theorem dX6_canal_66 : decode cX6_canal 66 = .ok (.ireturn, 1) := by decide +kernel
theorem dX6_canal_67 : decode cX6_canal 67 = .ok (.aload_n 0, 1) := by decide +kernel
theorem dX6_canal_68 : decode cX6_canal 68 = .ok (.getfield 22, 3) := by decide +kernel
theorem dX6_canal_71 : decode cX6_canal 71 = .ok (.aload_n 0, 1) := by decide +kernel
theorem dX6_canal_72 : decode cX6_canal 72 = .ok (.getfield 12, 3) := by decide +kernel
theorem dX6_canal_75 : decode cX6_canal 75 = .ok (.invokevirtual 53, 3) := by decide +kernel
theorem dX6_canal_78 : decode cX6_canal 78 = .ok (.aload_n 0, 1) := by decide +kernel
theorem dX6_canal_79 : decode cX6_canal 79 = .ok (.getfield 12, 3) := by decide +kernel
theorem dX6_canal_82 : decode cX6_canal 82 = .ok (.getfield 33, 3) := by decide +kernel
theorem dX6_canal_85 : decode cX6_canal 85 = .ok (.iload_n 1, 1) := by decide +kernel
theorem dX6_canal_86 : decode cX6_canal 86 = .ok (.iload_n 2, 1) := by decide +kernel
theorem dX6_canal_87 : decode cX6_canal 87 = .ok (.iload_n 3, 1) := by decide +kernel
theorem dX6_canal_88 : decode cX6_canal 88 = .ok (.iload 4, 2) := by decide +kernel
theorem dX6_canal_90 : decode cX6_canal 90 = .ok (.invokevirtual 57, 3) := by decide +kernel
theorem dX6_canal_93 : decode cX6_canal 93 = .ok (.ireturn, 1) := by decide +kernel
theorem dX6_field_0 : decode cX6_field 0 = .ok (.aload_n 0, 1) := by decide +kernel
theorem dX6_field_1 : decode cX6_field 1 = .ok (.getfield 12, 3) := by decide +kernel
theorem dX6_field_4 : decode cX6_field 4 = .ok (.getfield 33, 3) := by decide +kernel
theorem dX6_field_7 : decode cX6_field 7 = .ok (.iload_n 1, 1) := by decide +kernel
theorem dX6_field_8 : decode cX6_field 8 = .ok (.invokevirtual 37, 3) := by decide +kernel
theorem dX6_field_11 : decode cX6_field 11 = .ok (.ifCond .eq 36, 3) := by decide +kernel
theorem dX6_field_14 : decode cX6_field 14 = .ok (.iload_n 2, 1) := by decide +kernel
theorem dX6_field_15 : decode cX6_field 15 = .ok (.iconst 1, 1) := by decide +kernel
theorem dX6_field_16 : decode cX6_field 16 = .ok (.sipush 999, 3) := by decide +kernel
theorem dX6_field_19 : decode cX6_field 19 = .ok (.invokestatic 43, 3) := by decide +kernel
theorem dX6_field_22 : decode cX6_field 22 = .ok (.ifCond .ne 25, 3) := by decide +kernel
theorem dX6_field_25 : decode cX6_field 25 = .ok (.iload_n 3, 1) := by decide +kernel
theorem dX6_field_26 : decode cX6_field 26 = .ok (.iconst 1, 1) := by decide +kernel
theorem dX6_field_27 : decode cX6_field 27 = .ok (.sipush 200, 3) := by decide +kernel
theorem dX6_field_30 : decode cX6_field 30 = .ok (.invokestatic 43, 3) := by decide +kernel
theorem dX6_field_33 : decode cX6_field 33 = .ok (.ifCond .ne 14, 3) := by decide +kernel
theorem dX6_field_36 : decode cX6_field 36 = .ok (.iload 4, 2) := by decide +kernel
theorem dX6_field_38 : decode cX6_field 38 = .ok (.iconst 0, 1) := by decide +kernel
theorem dX6_field_39 : decode cX6_field 39 = .ok (.bipush 99, 2) := by decide +kernel
theorem dX6_field_41 : decode cX6_field 41 = .ok (.invokestatic 43, 3) := by decide +kernel
theorem dX6_field_44 : decode cX6_field 44 = .ok (.ifCond .eq 6, 3) := by decide +kernel
theorem dX6_field_47 : decode cX6_field 47 = .ok (.ldc 47, 2) := by decide +kernel
theorem dX6_field_49 : decode cX6_field 49 = .ok (.ireturn, 1) := by decide +kernel
theorem dX6_field_50 : decode cX6_field 50 = .ok (.aload_n 0, 1) := by decide +kernel
theorem dX6_field_51 : decode cX6_field 51 = .ok (.getfield 12, 3) := by decide +kernel
theorem dX6_field_54 : decode cX6_field 54 = .ok (.getfield 61, 3) := by decide +kernel
theorem dX6_field_57 : decode cX6_field 57 = .ok (.getfield 65, 3) := by decide +kernel
theorem dX6_field_60 : decode cX6_field 60 = .ok (.bipush 10, 2) := by decide +kernel
theorem dX6_field_62 : decode cX6_field 62 = .ok (.if_icmp .lt 6, 3) := by decide +kernel
theorem dX6_field_65 : decode cX6_field 65 = .ok (.ldc 52, 2) := by decide +kernel
theorem dX6_field_67 : decode cX6_field 67 = .ok (.ireturn, 1) := by decide +kernel
theorem dX6_field_68 : decode cX6_field 68 = .ok (.aload_n 0, 1) := by decide +kernel
theorem dX6_field_69 : decode cX6_field 69 = .ok (.getfield 22, 3) := by decide +kernel
theorem dX6_field_72 : decode cX6_field 72 = .ok (.aload_n 0, 1) := by decide +kernel
theorem dX6_field_73 : decode cX6_field 73 = .ok (.getfield 12, 3) := by decide +kernel
theorem dX6_field_76 : decode cX6_field 76 = .ok (.invokevirtual 53, 3) := by decide +kernel
theorem dX6_field_79 : decode cX6_field 79 = .ok (.aload_n 0, 1) := by decide +kernel
theorem dX6_field_80 : decode cX6_field 80 = .ok (.getfield 12, 3) := by decide +kernel
theorem dX6_field_83 : decode cX6_field 83 = .ok (.getfield 61, 3) := by decide +kernel
theorem dX6_field_86 : decode cX6_field 86 = .ok (.iload_n 1, 1) := by decide +kernel
theorem dX6_field_87 : decode cX6_field 87 = .ok (.iload_n 2, 1) := by decide +kernel
theorem dX6_field_88 : decode cX6_field 88 = .ok (.iload_n 3, 1) := by decide +kernel
theorem dX6_field_89 : decode cX6_field 89 = .ok (.iload 4, 2) := by decide +kernel
theorem dX6_field_91 : decode cX6_field 91 = .ok (.invokevirtual 68, 3) := by decide +kernel
theorem dX6_field_94 : decode cX6_field 94 = .ok (.ireturn, 1) := by decide +kernel
theorem dX6_tend_0 : decode cX6_tend 0 = .ok (.iload_n 1, 1) := by decide +kernel
theorem dX6_tend_1 : decode cX6_tend 1 = .ok (.iconst 0, 1) := by decide +kernel
theorem dX6_tend_2 : decode cX6_tend 2 = .ok (.iconst 2, 1) := by decide +kernel
theorem dX6_tend_3 : decode cX6_tend 3 = .ok (.invokestatic 43, 3) := by decide +kernel
theorem dX6_tend_6 : decode cX6_tend 6 = .ok (.ifCond .ne 17, 3) := by decide +kernel
theorem dX6_tend_9 : decode cX6_tend 9 = .ok (.aload_n 0, 1) := by decide +kernel
theorem dX6_tend_10 : decode cX6_tend 10 = .ok (.getfield 12, 3) := by decide +kernel
theorem dX6_tend_13 : decode cX6_tend 13 = .ok (.getfield 33, 3) := by decide +kernel
theorem dX6_tend_16 : decode cX6_tend 16 = .ok (.iload_n 2, 1) := by decide +kernel
theorem dX6_tend_17 : decode cX6_tend 17 = .ok (.invokevirtual 69, 3) := by decide +kernel
theorem dX6_tend_20 : decode cX6_tend 20 = .ok (.ifCond .ne 6, 3) := by decide +kernel
theorem dX6_tend_23 : decode cX6_tend 23 = .ok (.ldc 47, 2) := by decide +kernel
theorem dX6_tend_25 : decode cX6_tend 25 = .ok (.ireturn, 1) := by decide +kernel
theorem dX6_tend_26 : decode cX6_tend 26 = .ok (.aload_n 0, 1) := by decide +kernel
theorem dX6_tend_27 : decode cX6_tend 27 = .ok (.getfield 12, 3) := by decide +kernel
theorem dX6_tend_30 : decode cX6_tend 30 = .ok (.getfield 33, 3) := by decide +kernel
theorem dX6_tend_33 : decode cX6_tend 33 = .ok (.iload_n 2, 1) := by decide +kernel
theorem dX6_tend_34 : decode cX6_tend 34 = .ok (.invokevirtual 72, 3) := by decide +kernel
