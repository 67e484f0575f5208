theorem dX0_init_0 : decode cX0_init 0 = .ok (.aload_n 0, 1) := by decide +kernel
theorem dX0_init_1 : decode cX0_init 1 = .ok (.invokespecial 3, 3) := by decide +kernel
theorem dX0_init_4 : decode cX0_init 4 = .ok (.aload_n 0, 1) := by decide +kernel
theorem dX0_init_5 : decode cX0_init 5 = .ok (.bipush 24, 2) := by decide +kernel
theorem dX0_init_7 : decode cX0_init 7 = .ok (.newarray .int, 2) := by decide +kernel
theorem dX0_init_9 : decode cX0_init 9 = .ok (.putfield 9, 3) := by decide +kernel
theorem dX0_init_12 : decode cX0_init 12 = .ok (.aload_n 0, 1) := by decide +kernel
theorem dX0_init_13 : decode cX0_init 13 = .ok (.bipush 24, 2) := by decide +kernel
theorem dX0_init_15 : decode cX0_init 15 = .ok (.newarray .int, 2) := by decide +kernel
theorem dX0_init_17 : decode cX0_init 17 = .ok (.putfield 15, 3) := by decide +kernel
theorem dX0_init_20 : decode cX0_init 20 = .ok (.aload_n 0, 1) := by decide +kernel
theorem dX0_init_21 : decode cX0_init 21 = .ok (.bipush 24, 2) := by decide +kernel
theorem dX0_init_23 : decode cX0_init 23 = .ok (.newarray .int, 2) := by decide +kernel
theorem dX0_init_25 : decode cX0_init 25 = .ok (.putfield 18, 3) := by decide +kernel
theorem dX0_init_28 : decode cX0_init 28 = .ok (.aload_n 0, 1) := by decide +kernel
theorem dX0_init_29 : decode cX0_init 29 = .ok (.bipush 10, 2) := by decide +kernel
theorem dX0_init_31 : decode cX0_init 31 = .ok (.newarray .int, 2) := by decide +kernel
theorem dX0_init_33 : decode cX0_init 33 = .ok (.putfield 21, 3) := by decide +kernel
theorem dX0_init_36 : decode cX0_init 36 = .ok (.aload_n 0, 1) := by decide +kernel
theorem dX0_init_37 : decode cX0_init 37 = .ok (.bipush 10, 2) := by decide +kernel
theorem dX0_init_39 : decode cX0_init 39 = .ok (.newarray .int, 2) := by decide +kernel
theorem dX0_init_41 : decode cX0_init 41 = .ok (.putfield 24, 3) := by decide +kernel
theorem dX0_init_44 : decode cX0_init 44 = .ok (.aload_n 0, 1) := by decide +kernel
theorem dX0_init_45 : decode cX0_init 45 = .ok (.bipush 10, 2) := by decide +kernel
theorem dX0_init_47 : decode cX0_init 47 = .ok (.newarray .int, 2) := by decide +kernel
theorem dX0_init_49 : decode cX0_init 49 = .ok (.putfield 27, 3) := by decide +kernel
theorem dX0_init_52 : decode cX0_init 52 = .ok (.aload_n 0, 1) := by decide +kernel
theorem dX0_init_53 : decode cX0_init 53 = .ok (.bipush 10, 2) := by decide +kernel
theorem dX0_init_55 : decode cX0_init 55 = .ok (.newarray .int, 2) := by decide +kernel
theorem dX0_init_57 : decode cX0_init 57 = .ok (.putfield 30, 3) := by decide +kernel
theorem dX0_init_60 : decode cX0_init 60 = .ok (.aload_n 0, 1) := by decide +kernel
theorem dX0_init_61 : decode cX0_init 61 = .ok (.bipush 10, 2) := by decide +kernel
theorem dX0_init_63 : decode cX0_init 63 = .ok (.newarray .int, 2) := by decide +kernel
theorem dX0_init_65 : decode cX0_init 65 = .ok (.putfield 33, 3) := by decide +kernel
theorem dX0_init_68 : decode cX0_init 68 = .ok (.aload_n 0, 1) := by decide +kernel
theorem dX0_init_69 : decode cX0_init 69 = .ok (.bipush 10, 2) := by decide +kernel
theorem dX0_init_71 : decode cX0_init 71 = .ok (.newarray .int, 2) := by decide +kernel
theorem dX0_init_73 : decode cX0_init 73 = .ok (.putfield 36, 3) := by decide +kernel
theorem dX0_init_76 : decode cX0_init 76 = .ok (.aload_n 0, 1) := by decide +kernel
theorem dX0_init_77 : decode cX0_init 77 = .ok (.bipush 10, 2) := by decide +kernel
theorem dX0_init_79 : decode cX0_init 79 = .ok (.newarray .int, 2) := by decide +kernel
theorem dX0_init_81 : decode cX0_init 81 = .ok (.putfield 39, 3) := by decide +kernel
theorem dX0_init_84 : decode cX0_init 84 = .ok (.aload_n 0, 1) := by decide +kernel
theorem dX0_init_85 : decode cX0_init 85 = .ok (.bipush 10, 2) := by decide +kernel
theorem dX0_init_87 : decode cX0_init 87 = .ok (.newarray .int, 2) := by decide +kernel
theorem dX0_init_89 : decode cX0_init 89 = .ok (.putfield 42, 3) := by decide +kernel
theorem dX0_init_92 : decode cX0_init 92 = .ok (.aload_n 0, 1) := by decide +kernel
theorem dX0_init_93 : decode cX0_init 93 = .ok (.iconst 4, 1) := by decide +kernel
theorem dX0_init_94 : decode cX0_init 94 = .ok (.newarray .int, 2) := by decide +kernel
theorem dX0_init_96 : decode cX0_init 96 = .ok (.putfield 45, 3) := by decide +kernel
theorem dX0_init_99 : decode cX0_init 99 = .ok (.aload_n 0, 1) := by decide +kernel
theorem dX0_init_100 : decode cX0_init 100 = .ok (.iconst 4, 1) := by decide +kernel
theorem dX0_init_101 : decode cX0_init 101 = .ok (.newarray .boolean, 2) := by decide +kernel
theorem dX0_init_103 : decode cX0_init 103 = .ok (.putfield 48, 3) := by decide +kernel
theorem dX0_init_106 : decode cX0_init 106 = .ok (.aload_n 0, 1) := by decide +kernel
theorem dX0_init_107 : decode cX0_init 107 = .ok (.bipush 10, 2) := by decide +kernel
theorem dX0_init_109 : decode cX0_init 109 = .ok (.newarray .int, 2) := by decide +kernel
theorem dX0_init_111 : decode cX0_init 111 = .ok (.putfield 52, 3) := by decide +kernel
theorem dX0_init_114 : decode cX0_init 114 = .ok (.aload_n 0, 1) := by decide +kernel
theorem dX0_init_115 : decode cX0_init 115 = .ok (.invokevirtual 55, 3) := by decide +kernel
theorem dX0_init_118 : decode cX0_init 118 = .ok (.return_, 1) := by decide +kernel
theorem dX0_clearHistory_0 : decode cX0_clearHistory 0 = .ok (.aload_n 0, 1) := by decide +kernel
theorem dX0_clearHistory_1 : decode cX0_clearHistory 1 = .ok (.iconst 0, 1) := by decide +kernel
theorem dX0_clearHistory_2 : decode cX0_clearHistory 2 = .ok (.putfield 58, 3) := by decide +kernel
theorem dX0_clearHistory_5 : decode cX0_clearHistory 5 = .ok (.aload_n 0, 1) := by decide +kernel
theorem dX0_clearHistory_6 : decode cX0_clearHistory 6 = .ok (.iconst 0, 1) := by decide +kernel
theorem dX0_clearHistory_7 : decode cX0_clearHistory 7 = .ok (.putfield 62, 3) := by decide +kernel
theorem dX0_clearHistory_10 : decode cX0_clearHistory 10 = .ok (.iconst 0, 1) := by decide +kernel
theorem dX0_clearHistory_11 : decode cX0_clearHistory 11 = .ok (.istore_n 1, 1) := by decide +kernel
theorem dX0_clearHistory_12 : decode cX0_clearHistory 12 = .ok (.iload_n 1, 1) := by decide +kernel
theorem dX0_clearHistory_13 : decode cX0_clearHistory 13 = .ok (.iconst 4, 1) := by decide +kernel
theorem dX0_clearHistory_14 : decode cX0_clearHistory 14 = .ok (.if_icmp .ge 23, 3) := by decide +kernel
theorem dX0_clearHistory_17 : decode cX0_clearHistory 17 = .ok (.aload_n 0, 1) := by decide +kernel
theorem dX0_clearHistory_18 : decode cX0_clearHistory 18 = .ok (.getfield 45, 3) := by decide +kernel
theorem dX0_clearHistory_21 : decode cX0_clearHistory 21 = .ok (.iload_n 1, 1) := by decide +kernel
theorem dX0_clearHistory_22 : decode cX0_clearHistory 22 = .ok (.iconst (-1), 1) := by decide +kernel
theorem dX0_clearHistory_23 : decode cX0_clearHistory 23 = .ok (.iastore, 1) := by decide +kernel
theorem dX0_clearHistory_24 : decode cX0_clearHistory 24 = .ok (.aload_n 0, 1) := by decide +kernel
theorem dX0_clearHistory_25 : decode cX0_clearHistory 25 = .ok (.getfield 48, 3) := by decide +kernel
theorem dX0_clearHistory_28 : decode cX0_clearHistory 28 = .ok (.iload_n 1, 1) := by decide +kernel
theorem dX0_clearHistory_29 : decode cX0_clearHistory 29 = .ok (.iconst 0, 1) := by decide +kernel
theorem dX0_clearHistory_30 : decode cX0_clearHistory 30 = .ok (.bastore, 1) := by decide +kernel
theorem dX0_clearHistory_31 : decode cX0_clearHistory 31 = .ok (.iinc 1 1, 3) := by decide +kernel
theorem dX0_clearHistory_34 : decode cX0_clearHistory 34 = .ok (.goto (-22), 3) := by decide +kernel
theorem dX0_clearHistory_37 : decode cX0_clearHistory 37 = .ok (.return_, 1) := by decide +kernel
theorem dX0_has_0 : decode cX0_has 0 = .ok (.iload_n 1, 1) := by decide +kernel
theorem dX0_has_1 : decode cX0_has 1 = .ok (.iconst 0, 1) := by decide +kernel
theorem dX0_has_2 : decode cX0_has 2 = .ok (.aload_n 0, 1) := by decide +kernel
theorem dX0_has_3 : decode cX0_has 3 = .ok (.getfield 62, 3) := by decide +kernel
theorem dX0_has_6 : decode cX0_has 6 = .ok (.iconst 1, 1) := by decide +kernel
theorem dX0_has_7 : decode cX0_has 7 = .ok (.isub, 1) := by decide +kernel
theorem dX0_has_8 : decode cX0_has 8 = .ok (.invokestatic 65, 3) := by decide +kernel
theorem dX0_has_11 : decode cX0_has 11 = .ok (.ireturn, 1) := by decide +kernel
theorem dX0_isPending_0 : decode cX0_isPending 0 = .ok (.aload_n 0, 1) := by decide +kernel
theorem dX0_isPending_1 : decode cX0_isPending 1 = .ok (.getfield 39, 3) := by decide +kernel
theorem dX0_isPending_4 : decode cX0_isPending 4 = .ok (.iload_n 1, 1) := by decide +kernel
theorem dX0_isPending_5 : decode cX0_isPending 5 = .ok (.iaload, 1) := by decide +kernel
theorem dX0_isPending_6 : decode cX0_isPending 6 = .ok (.iconst (-1), 1) := by decide +kernel
theorem dX0_isPending_7 : decode cX0_isPending 7 = .ok (.if_icmp .ne 7, 3) := by decide +kernel
theorem dX0_isPending_10 : decode cX0_isPending 10 = .ok (.iconst 1, 1) := by decide +kernel
theorem dX0_isPending_11 : decode cX0_isPending 11 = .ok (.goto 4, 3) := by decide +kernel
theorem dX0_isPending_14 : decode cX0_isPending 14 = .ok (.iconst 0, 1) := by decide +kernel
theorem dX0_isPending_15 : decode cX0_isPending 15 = .ok (.ireturn, 1) := by decide +kernel
theorem dX0_isBefore_0 : decode cX0_isBefore 0 = .ok (.aload_n 0, 1) := by decide +kernel
theorem dX0_isBefore_1 : decode cX0_isBefore 1 = .ok (.iload_n 1, 1) := by decide +kernel
theorem dX0_isBefore_2 : decode cX0_isBefore 2 = .ok (.invokevirtual 69, 3) := by decide +kernel
theorem dX0_isBefore_5 : decode cX0_isBefore 5 = .ok (.ifCond .ne 22, 3) := by decide +kernel
theorem dX0_isBefore_8 : decode cX0_isBefore 8 = .ok (.aload_n 0, 1) := by decide +kernel
theorem dX0_isBefore_9 : decode cX0_isBefore 9 = .ok (.getfield 39, 3) := by decide +kernel
theorem dX0_isBefore_12 : decode cX0_isBefore 12 = .ok (.iload_n 1, 1) := by decide +kernel
theorem dX0_isBefore_13 : decode cX0_isBefore 13 = .ok (.iaload, 1) := by decide +kernel
theorem dX0_isBefore_14 : decode cX0_isBefore 14 = .ok (.aload_n 0, 1) := by decide +kernel
theorem dX0_isBefore_15 : decode cX0_isBefore 15 = .ok (.getfield 36, 3) := by decide +kernel
theorem dX0_isBefore_18 : decode cX0_isBefore 18 = .ok (.iload_n 2, 1) := by decide +kernel
theorem dX0_isBefore_19 : decode cX0_isBefore 19 = .ok (.iaload, 1) := by decide +kernel
theorem dX0_isBefore_20 : decode cX0_isBefore 20 = .ok (.if_icmp .ge 7, 3) := by decide +kernel
theorem dX0_isBefore_23 : decode cX0_isBefore 23 = .ok (.iconst 1, 1) := by decide +kernel
theorem dX0_isBefore_24 : decode cX0_isBefore 24 = .ok (.goto 4, 3) := by decide +kernel
theorem dX0_isBefore_27 : decode cX0_isBefore 27 = .ok (.iconst 0, 1) := by decide +kernel
theorem dX0_isBefore_28 : decode cX0_isBefore 28 = .ok (.ireturn, 1) := by decide +kernel
theorem dX0_endsWithResponse_0 : decode cX0_endsWithResponse 0 = .ok (.iload_n 1, 1) := by decide +kernel
theorem dX0_endsWithResponse_1 : decode cX0_endsWithResponse 1 = .ok (.iconst 1, 1) := by decide +kernel
theorem dX0_endsWithResponse_2 : decode cX0_endsWithResponse 2 = .ok (.aload_n 0, 1) := by decide +kernel
theorem dX0_endsWithResponse_3 : decode cX0_endsWithResponse 3 = .ok (.getfield 58, 3) := by decide +kernel
theorem dX0_endsWithResponse_6 : decode cX0_endsWithResponse 6 = .ok (.invokestatic 65, 3) := by decide +kernel
theorem dX0_endsWithResponse_9 : decode cX0_endsWithResponse 9 = .ok (.ifCond .eq 19, 3) := by decide +kernel
theorem dX0_endsWithResponse_12 : decode cX0_endsWithResponse 12 = .ok (.aload_n 0, 1) := by decide +kernel
theorem dX0_endsWithResponse_13 : decode cX0_endsWithResponse 13 = .ok (.getfield 9, 3) := by decide +kernel
theorem dX0_endsWithResponse_16 : decode cX0_endsWithResponse 16 = .ok (.iload_n 1, 1) := by decide +kernel
theorem dX0_endsWithResponse_17 : decode cX0_endsWithResponse 17 = .ok (.iconst 1, 1) := by decide +kernel
theorem dX0_endsWithResponse_18 : decode cX0_endsWithResponse 18 = .ok (.isub, 1) := by decide +kernel
theorem dX0_endsWithResponse_19 : decode cX0_endsWithResponse 19 = .ok (.iaload, 1) := by decide +kernel
theorem dX0_endsWithResponse_20 : decode cX0_endsWithResponse 20 = .ok (.iconst 1, 1) := by decide +kernel
theorem dX0_endsWithResponse_21 : decode cX0_endsWithResponse 21 = .ok (.if_icmp .ne 7, 3) := by decide +kernel
theorem dX0_endsWithResponse_24 : decode cX0_endsWithResponse 24 = .ok (.iconst 1, 1) := by decide +kernel
theorem dX0_endsWithResponse_25 : decode cX0_endsWithResponse 25 = .ok (.goto 4, 3) := by decide +kernel
theorem dX0_endsWithResponse_28 : decode cX0_endsWithResponse 28 = .ok (.iconst 0, 1) := by decide +kernel
theorem dX0_endsWithResponse_29 : decode cX0_endsWithResponse 29 = .ok (.ireturn, 1) := by decide +kernel
theorem dX0_addInvocation_0 : decode cX0_addInvocation 0 = .ok (.aload_n 0, 1) := by decide +kernel
theorem dX0_addInvocation_1 : decode cX0_addInvocation 1 = .ok (.getfield 62, 3) := by decide +kernel
theorem dX0_addInvocation_4 : decode cX0_addInvocation 4 = .ok (.bipush 10, 2) := by decide +kernel
theorem dX0_addInvocation_6 : decode cX0_addInvocation 6 = .ok (.if_icmp .lt 4, 3) := by decide +kernel
theorem dX0_addInvocation_9 : decode cX0_addInvocation 9 = .ok (.return_, 1) := by decide +kernel
theorem dX0_addInvocation_10 : decode cX0_addInvocation 10 = .ok (.aload_n 0, 1) := by decide +kernel
theorem dX0_addInvocation_11 : decode cX0_addInvocation 11 = .ok (.getfield 21, 3) := by decide +kernel
theorem dX0_addInvocation_14 : decode cX0_addInvocation 14 = .ok (.aload_n 0, 1) := by decide +kernel
theorem dX0_addInvocation_15 : decode cX0_addInvocation 15 = .ok (.getfield 62, 3) := by decide +kernel
theorem dX0_addInvocation_18 : decode cX0_addInvocation 18 = .ok (.iload_n 1, 1) := by decide +kernel
theorem dX0_addInvocation_19 : decode cX0_addInvocation 19 = .ok (.iastore, 1) := by decide +kernel
theorem dX0_addInvocation_20 : decode cX0_addInvocation 20 = .ok (.aload_n 0, 1) := by decide +kernel
theorem dX0_addInvocation_21 : decode cX0_addInvocation 21 = .ok (.getfield 24, 3) := by decide +kernel
theorem dX0_addInvocation_24 : decode cX0_addInvocation 24 = .ok (.aload_n 0, 1) := by decide +kernel
theorem dX0_addInvocation_25 : decode cX0_addInvocation 25 = .ok (.getfield 62, 3) := by decide +kernel
theorem dX0_addInvocation_28 : decode cX0_addInvocation 28 = .ok (.iload_n 2, 1) := by decide +kernel
theorem dX0_addInvocation_29 : decode cX0_addInvocation 29 = .ok (.iastore, 1) := by decide +kernel
theorem dX0_addInvocation_30 : decode cX0_addInvocation 30 = .ok (.aload_n 0, 1) := by decide +kernel
theorem dX0_addInvocation_31 : decode cX0_addInvocation 31 = .ok (.getfield 27, 3) := by decide +kernel
theorem dX0_addInvocation_34 : decode cX0_addInvocation 34 = .ok (.aload_n 0, 1) := by decide +kernel
theorem dX0_addInvocation_35 : decode cX0_addInvocation 35 = .ok (.getfield 62, 3) := by decide +kernel
theorem dX0_addInvocation_38 : decode cX0_addInvocation 38 = .ok (.iload_n 3, 1) := by decide +kernel
theorem dX0_addInvocation_39 : decode cX0_addInvocation 39 = .ok (.iastore, 1) := by decide +kernel
theorem dX0_addInvocation_40 : decode cX0_addInvocation 40 = .ok (.aload_n 0, 1) := by decide +kernel
theorem dX0_addInvocation_41 : decode cX0_addInvocation 41 = .ok (.getfield 30, 3) := by decide +kernel
theorem dX0_addInvocation_44 : decode cX0_addInvocation 44 = .ok (.aload_n 0, 1) := by decide +kernel
theorem dX0_addInvocation_45 : decode cX0_addInvocation 45 = .ok (.getfield 62, 3) := by decide +kernel
theorem dX0_addInvocation_48 : decode cX0_addInvocation 48 = .ok (.iload 4, 2) := by decide +kernel
theorem dX0_addInvocation_50 : decode cX0_addInvocation 50 = .ok (.iastore, 1) := by decide +kernel
theorem dX0_addInvocation_51 : decode cX0_addInvocation 51 = .ok (.aload_n 0, 1) := by decide +kernel
theorem dX0_addInvocation_52 : decode cX0_addInvocation 52 = .ok (.getfield 33, 3) := by decide +kernel
theorem dX0_addInvocation_55 : decode cX0_addInvocation 55 = .ok (.aload_n 0, 1) := by decide +kernel
theorem dX0_addInvocation_56 : decode cX0_addInvocation 56 = .ok (.getfield 62, 3) := by decide +kernel
theorem dX0_addInvocation_59 : decode cX0_addInvocation 59 = .ok (.iload 5, 2) := by decide +kernel
theorem dX0_addInvocation_61 : decode cX0_addInvocation 61 = .ok (.iastore, 1) := by decide +kernel
theorem dX0_addInvocation_62 : decode cX0_addInvocation 62 = .ok (.aload_n 0, 1) := by decide +kernel
theorem dX0_addInvocation_63 : decode cX0_addInvocation 63 = .ok (.getfield 36, 3) := by decide +kernel
theorem dX0_addInvocation_66 : decode cX0_addInvocation 66 = .ok (.aload_n 0, 1) := by decide +kernel
theorem dX0_addInvocation_67 : decode cX0_addInvocation 67 = .ok (.getfield 62, 3) := by decide +kernel
theorem dX0_addInvocation_70 : decode cX0_addInvocation 70 = .ok (.aload_n 0, 1) := by decide +kernel
theorem dX0_addInvocation_71 : decode cX0_addInvocation 71 = .ok (.getfield 58, 3) := by decide +kernel
theorem dX0_addInvocation_74 : decode cX0_addInvocation 74 = .ok (.iastore, 1) := by decide +kernel
theorem dX0_addInvocation_75 : decode cX0_addInvocation 75 = .ok (.aload_n 0, 1) := by decide +kernel
theorem dX0_addInvocation_76 : decode cX0_addInvocation 76 = .ok (.getfield 39, 3) := by decide +kernel
theorem dX0_addInvocation_79 : decode cX0_addInvocation 79 = .ok (.aload_n 0, 1) := by decide +kernel
theorem dX0_addInvocation_80 : decode cX0_addInvocation 80 = .ok (.getfield 62, 3) := by decide +kernel
theorem dX0_addInvocation_83 : decode cX0_addInvocation 83 = .ok (.iconst (-1), 1) := by decide +kernel
theorem dX0_addInvocation_84 : decode cX0_addInvocation 84 = .ok (.iastore, 1) := by decide +kernel
theorem dX0_addInvocation_85 : decode cX0_addInvocation 85 = .ok (.aload_n 0, 1) := by decide +kernel
theorem dX0_addInvocation_86 : decode cX0_addInvocation 86 = .ok (.getfield 45, 3) := by decide +kernel
theorem dX0_addInvocation_89 : decode cX0_addInvocation 89 = .ok (.iload_n 2, 1) := by decide +kernel
theorem dX0_addInvocation_90 : decode cX0_addInvocation 90 = .ok (.aload_n 0, 1) := by decide +kernel
theorem dX0_addInvocation_91 : decode cX0_addInvocation 91 = .ok (.getfield 62, 3) := by decide +kernel
theorem dX0_addInvocation_94 : decode cX0_addInvocation 94 = .ok (.iastore, 1) := by decide +kernel
theorem dX0_addInvocation_95 : decode cX0_addInvocation 95 = .ok (.aload_n 0, 1) := by decide +kernel
theorem dX0_addInvocation_96 : decode cX0_addInvocation 96 = .ok (.iconst 0, 1) := by decide +kernel
theorem dX0_addInvocation_97 : decode cX0_addInvocation 97 = .ok (.iload_n 2, 1) := by decide +kernel
theorem dX0_addInvocation_98 : decode cX0_addInvocation 98 = .ok (.aload_n 0, 1) := by decide +kernel
theorem dX0_addInvocation_99 : decode cX0_addInvocation 99 = .ok (.getfield 62, 3) := by decide +kernel
theorem dX0_addInvocation_102 : decode cX0_addInvocation 102 = .ok (.invokevirtual 73, 3) := by decide +kernel
theorem dX0_addInvocation_105 : decode cX0_addInvocation 105 = .ok (.aload_n 0, 1) := by decide +kernel
theorem dX0_addInvocation_106 : decode cX0_addInvocation 106 = .ok (.dup, 1) := by decide +kernel
theorem dX0_addInvocation_107 : decode cX0_addInvocation 107 = .ok (.getfield 62, 3) := by decide +kernel
theorem dX0_addInvocation_110 : decode cX0_addInvocation 110 = .ok (.iconst 1, 1) := by decide +kernel
theorem dX0_addInvocation_111 : decode cX0_addInvocation 111 = .ok (.iadd, 1) := by decide +kernel
theorem dX0_addInvocation_112 : decode cX0_addInvocation 112 = .ok (.putfield 62, 3) := by decide +kernel
theorem dX0_addInvocation_115 : decode cX0_addInvocation 115 = .ok (.return_, 1) := by decide +kernel
theorem dX0_addResponse_0 : decode cX0_addResponse 0 = .ok (.aload_n 0, 1) := by decide +kernel
theorem dX0_addResponse_1 : decode cX0_addResponse 1 = .ok (.getfield 45, 3) := by decide +kernel
theorem dX0_addResponse_4 : decode cX0_addResponse 4 = .ok (.iload_n 1, 1) := by decide +kernel
theorem dX0_addResponse_5 : decode cX0_addResponse 5 = .ok (.iaload, 1) := by decide +kernel
theorem dX0_addResponse_6 : decode cX0_addResponse 6 = .ok (.istore_n 3, 1) := by decide +kernel
theorem dX0_addResponse_7 : decode cX0_addResponse 7 = .ok (.aload_n 0, 1) := by decide +kernel
theorem dX0_addResponse_8 : decode cX0_addResponse 8 = .ok (.iload_n 3, 1) := by decide +kernel
theorem dX0_addResponse_9 : decode cX0_addResponse 9 = .ok (.invokevirtual 77, 3) := by decide +kernel
theorem dX0_addResponse_12 : decode cX0_addResponse 12 = .ok (.ifCond .ne 4, 3) := by decide +kernel
theorem dX0_addResponse_15 : decode cX0_addResponse 15 = .ok (.return_, 1) := by decide +kernel
theorem dX0_addResponse_16 : decode cX0_addResponse 16 = .ok (.aload_n 0, 1) := by decide +kernel
theorem dX0_addResponse_17 : decode cX0_addResponse 17 = .ok (.getfield 39, 3) := by decide +kernel
theorem dX0_addResponse_20 : decode cX0_addResponse 20 = .ok (.iload_n 3, 1) := by decide +kernel
theorem dX0_addResponse_21 : decode cX0_addResponse 21 = .ok (.aload_n 0, 1) := by decide +kernel
theorem dX0_addResponse_22 : decode cX0_addResponse 22 = .ok (.getfield 58, 3) := by decide +kernel
theorem dX0_addResponse_25 : decode cX0_addResponse 25 = .ok (.iastore, 1) := by decide +kernel
theorem dX0_addResponse_26 : decode cX0_addResponse 26 = .ok (.aload_n 0, 1) := by decide +kernel
theorem dX0_addResponse_27 : decode cX0_addResponse 27 = .ok (.getfield 42, 3) := by decide +kernel
theorem dX0_addResponse_30 : decode cX0_addResponse 30 = .ok (.iload_n 3, 1) := by decide +kernel
theorem dX0_addResponse_31 : decode cX0_addResponse 31 = .ok (.iload_n 2, 1) := by decide +kernel
theorem dX0_addResponse_32 : decode cX0_addResponse 32 = .ok (.iastore, 1) := by decide +kernel
theorem dX0_addResponse_33 : decode cX0_addResponse 33 = .ok (.aload_n 0, 1) := by decide +kernel
theorem dX0_addResponse_34 : decode cX0_addResponse 34 = .ok (.getfield 45, 3) := by decide +kernel
theorem dX0_addResponse_37 : decode cX0_addResponse 37 = .ok (.iload_n 1, 1) := by decide +kernel
theorem dX0_addResponse_38 : decode cX0_addResponse 38 = .ok (.iconst (-1), 1) := by decide +kernel
theorem dX0_addResponse_39 : decode cX0_addResponse 39 = .ok (.iastore, 1) := by decide +kernel
theorem dX0_addResponse_40 : decode cX0_addResponse 40 = .ok (.aload_n 0, 1) := by decide +kernel
theorem dX0_addResponse_41 : decode cX0_addResponse 41 = .ok (.iconst 1, 1) := by decide +kernel
theorem dX0_addResponse_42 : decode cX0_addResponse 42 = .ok (.iload_n 1, 1) := by decide +kernel
theorem dX0_addResponse_43 : decode cX0_addResponse 43 = .ok (.iload_n 3, 1) := by decide +kernel
theorem dX0_addResponse_44 : decode cX0_addResponse 44 = .ok (.invokevirtual 73, 3) := by decide +kernel
theorem dX0_addResponse_47 : decode cX0_addResponse 47 = .ok (.return_, 1) := by decide +kernel
theorem dX0_addCrash_0 : decode cX0_addCrash 0 = .ok (.aload_n 0, 1) := by decide +kernel
theorem dX0_addCrash_1 : decode cX0_addCrash 1 = .ok (.getfield 48, 3) := by decide +kernel
theorem dX0_addCrash_4 : decode cX0_addCrash 4 = .ok (.iload_n 1, 1) := by decide +kernel
theorem dX0_addCrash_5 : decode cX0_addCrash 5 = .ok (.iconst 1, 1) := by decide +kernel
theorem dX0_addCrash_6 : decode cX0_addCrash 6 = .ok (.bastore, 1) := by decide +kernel
theorem dX0_addCrash_7 : decode cX0_addCrash 7 = .ok (.aload_n 0, 1) := by decide +kernel
theorem dX0_addCrash_8 : decode cX0_addCrash 8 = .ok (.iconst 2, 1) := by decide +kernel
theorem dX0_addCrash_9 : decode cX0_addCrash 9 = .ok (.iload_n 1, 1) := by decide +kernel
theorem dX0_addCrash_10 : decode cX0_addCrash 10 = .ok (.iconst (-1), 1) := by decide +kernel
theorem dX0_addCrash_11 : decode cX0_addCrash 11 = .ok (.invokevirtual 73, 3) := by decide +kernel
theorem dX0_addCrash_14 : decode cX0_addCrash 14 = .ok (.return_, 1) := by decide +kernel
theorem dX0_addEvent_0 : decode cX0_addEvent 0 = .ok (.aload_n 0, 1) := by decide +kernel
theorem dX0_addEvent_1 : decode cX0_addEvent 1 = .ok (.getfield 58, 3) := by decide +kernel
theorem dX0_addEvent_4 : decode cX0_addEvent 4 = .ok (.bipush 24, 2) := by decide +kernel
theorem dX0_addEvent_6 : decode cX0_addEvent 6 = .ok (.if_icmp .ge 43, 3) := by decide +kernel
theorem dX0_addEvent_9 : decode cX0_addEvent 9 = .ok (.aload_n 0, 1) := by decide +kernel
theorem dX0_addEvent_10 : decode cX0_addEvent 10 = .ok (.getfield 9, 3) := by decide +kernel
theorem dX0_addEvent_13 : decode cX0_addEvent 13 = .ok (.aload_n 0, 1) := by decide +kernel
theorem dX0_addEvent_14 : decode cX0_addEvent 14 = .ok (.getfield 58, 3) := by decide +kernel
theorem dX0_addEvent_17 : decode cX0_addEvent 17 = .ok (.iload_n 1, 1) := by decide +kernel
theorem dX0_addEvent_18 : decode cX0_addEvent 18 = .ok (.iastore, 1) := by decide +kernel
theorem dX0_addEvent_19 : decode cX0_addEvent 19 = .ok (.aload_n 0, 1) := by decide +kernel
theorem dX0_addEvent_20 : decode cX0_addEvent 20 = .ok (.getfield 15, 3) := by decide +kernel
theorem dX0_addEvent_23 : decode cX0_addEvent 23 = .ok (.aload_n 0, 1) := by decide +kernel
theorem dX0_addEvent_24 : decode cX0_addEvent 24 = .ok (.getfield 58, 3) := by decide +kernel
theorem dX0_addEvent_27 : decode cX0_addEvent 27 = .ok (.iload_n 2, 1) := by decide +kernel
theorem dX0_addEvent_28 : decode cX0_addEvent 28 = .ok (.iastore, 1) := by decide +kernel
theorem dX0_addEvent_29 : decode cX0_addEvent 29 = .ok (.aload_n 0, 1) := by decide +kernel
theorem dX0_addEvent_30 : decode cX0_addEvent 30 = .ok (.getfield 18, 3) := by decide +kernel
theorem dX0_addEvent_33 : decode cX0_addEvent 33 = .ok (.aload_n 0, 1) := by decide +kernel
theorem dX0_addEvent_34 : decode cX0_addEvent 34 = .ok (.getfield 58, 3) := by decide +kernel
theorem dX0_addEvent_37 : decode cX0_addEvent 37 = .ok (.iload_n 3, 1) := by decide +kernel
theorem dX0_addEvent_38 : decode cX0_addEvent 38 = .ok (.iastore, 1) := by decide +kernel
theorem dX0_addEvent_39 : decode cX0_addEvent 39 = .ok (.aload_n 0, 1) := by decide +kernel
theorem dX0_addEvent_40 : decode cX0_addEvent 40 = .ok (.dup, 1) := by decide +kernel
theorem dX0_addEvent_41 : decode cX0_addEvent 41 = .ok (.getfield 58, 3) := by decide +kernel
theorem dX0_addEvent_44 : decode cX0_addEvent 44 = .ok (.iconst 1, 1) := by decide +kernel
theorem dX0_addEvent_45 : decode cX0_addEvent 45 = .ok (.iadd, 1) := by decide +kernel
theorem dX0_addEvent_46 : decode cX0_addEvent 46 = .ok (.putfield 58, 3) := by decide +kernel
theorem dX0_addEvent_49 : decode cX0_addEvent 49 = .ok (.return_, 1) := by decide +kernel
theorem dX0_removeLastEvent_0 : decode cX0_removeLastEvent 0 = .ok (.aload_n 0, 1) := by decide +kernel
theorem dX0_removeLastEvent_1 : decode cX0_removeLastEvent 1 = .ok (.getfield 58, 3) := by decide +kernel
theorem dX0_removeLastEvent_4 : decode cX0_removeLastEvent 4 = .ok (.ifCond .ne 4, 3) := by decide +kernel
theorem dX0_removeLastEvent_7 : decode cX0_removeLastEvent 7 = .ok (.return_, 1) := by decide +kernel
theorem dX0_removeLastEvent_8 : decode cX0_removeLastEvent 8 = .ok (.aload_n 0, 1) := by decide +kernel
theorem dX0_removeLastEvent_9 : decode cX0_removeLastEvent 9 = .ok (.dup, 1) := by decide +kernel
theorem dX0_removeLastEvent_10 : decode cX0_removeLastEvent 10 = .ok (.getfield 58, 3) := by decide +kernel
theorem dX0_removeLastEvent_13 : decode cX0_removeLastEvent 13 = .ok (.iconst 1, 1) := by decide +kernel
theorem dX0_removeLastEvent_14 : decode cX0_removeLastEvent 14 = .ok (.isub, 1) := by decide +kernel
theorem dX0_removeLastEvent_15 : decode cX0_removeLastEvent 15 = .ok (.putfield 58, 3) := by decide +kernel
theorem dX0_removeLastEvent_18 : decode cX0_removeLastEvent 18 = .ok (.aload_n 0, 1) := by decide +kernel
theorem dX0_removeLastEvent_19 : decode cX0_removeLastEvent 19 = .ok (.getfield 15, 3) := by decide +kernel
theorem dX0_removeLastEvent_22 : decode cX0_removeLastEvent 22 = .ok (.aload_n 0, 1) := by decide +kernel
theorem dX0_removeLastEvent_23 : decode cX0_removeLastEvent 23 = .ok (.getfield 58, 3) := by decide +kernel
theorem dX0_removeLastEvent_26 : decode cX0_removeLastEvent 26 = .ok (.iaload, 1) := by decide +kernel
theorem dX0_removeLastEvent_27 : decode cX0_removeLastEvent 27 = .ok (.istore_n 1, 1) := by decide +kernel
theorem dX0_removeLastEvent_28 : decode cX0_removeLastEvent 28 = .ok (.aload_n 0, 1) := by decide +kernel
theorem dX0_removeLastEvent_29 : decode cX0_removeLastEvent 29 = .ok (.getfield 9, 3) := by decide +kernel
theorem dX0_removeLastEvent_32 : decode cX0_removeLastEvent 32 = .ok (.aload_n 0, 1) := by decide +kernel
theorem dX0_removeLastEvent_33 : decode cX0_removeLastEvent 33 = .ok (.getfield 58, 3) := by decide +kernel
theorem dX0_removeLastEvent_36 : decode cX0_removeLastEvent 36 = .ok (.iaload, 1) := by decide +kernel
theorem dX0_removeLastEvent_37 : decode cX0_removeLastEvent 37 = .ok (.lookupswitch 80 #[(0, 27), (1, 47)], 27) := by decide +kernel
theorem dX0_removeLastEvent_64 : decode cX0_removeLastEvent 64 = .ok (.aload_n 0, 1) := by decide +kernel
theorem dX0_removeLastEvent_65 : decode cX0_removeLastEvent 65 = .ok (.dup, 1) := by decide +kernel
theorem dX0_removeLastEvent_66 : decode cX0_removeLastEvent 66 = .ok (.getfield 62, 3) := by decide +kernel
theorem dX0_removeLastEvent_69 : decode cX0_removeLastEvent 69 = .ok (.iconst 1, 1) := by decide +kernel
theorem dX0_removeLastEvent_70 : decode cX0_removeLastEvent 70 = .ok (.isub, 1) := by decide +kernel
theorem dX0_removeLastEvent_71 : decode cX0_removeLastEvent 71 = .ok (.putfield 62, 3) := by decide +kernel
theorem dX0_removeLastEvent_74 : decode cX0_removeLastEvent 74 = .ok (.aload_n 0, 1) := by decide +kernel
theorem dX0_removeLastEvent_75 : decode cX0_removeLastEvent 75 = .ok (.getfield 45, 3) := by decide +kernel
theorem dX0_removeLastEvent_78 : decode cX0_removeLastEvent 78 = .ok (.iload_n 1, 1) := by decide +kernel
theorem dX0_removeLastEvent_79 : decode cX0_removeLastEvent 79 = .ok (.iconst (-1), 1) := by decide +kernel
theorem dX0_removeLastEvent_80 : decode cX0_removeLastEvent 80 = .ok (.iastore, 1) := by decide +kernel
theorem dX0_removeLastEvent_81 : decode cX0_removeLastEvent 81 = .ok (.goto 43, 3) := by decide +kernel
theorem dX0_removeLastEvent_84 : decode cX0_removeLastEvent 84 = .ok (.aload_n 0, 1) := by decide +kernel
theorem dX0_removeLastEvent_85 : decode cX0_removeLastEvent 85 = .ok (.getfield 45, 3) := by decide +kernel
theorem dX0_removeLastEvent_88 : decode cX0_removeLastEvent 88 = .ok (.iload_n 1, 1) := by decide +kernel
theorem dX0_removeLastEvent_89 : decode cX0_removeLastEvent 89 = .ok (.aload_n 0, 1) := by decide +kernel
theorem dX0_removeLastEvent_90 : decode cX0_removeLastEvent 90 = .ok (.getfield 18, 3) := by decide +kernel
theorem dX0_removeLastEvent_93 : decode cX0_removeLastEvent 93 = .ok (.aload_n 0, 1) := by decide +kernel
theorem dX0_removeLastEvent_94 : decode cX0_removeLastEvent 94 = .ok (.getfield 58, 3) := by decide +kernel
theorem dX0_removeLastEvent_97 : decode cX0_removeLastEvent 97 = .ok (.iaload, 1) := by decide +kernel
theorem dX0_removeLastEvent_98 : decode cX0_removeLastEvent 98 = .ok (.iastore, 1) := by decide +kernel
theorem dX0_removeLastEvent_99 : decode cX0_removeLastEvent 99 = .ok (.aload_n 0, 1) := by decide +kernel
theorem dX0_removeLastEvent_100 : decode cX0_removeLastEvent 100 = .ok (.getfield 39, 3) := by decide +kernel
theorem dX0_removeLastEvent_103 : decode cX0_removeLastEvent 103 = .ok (.aload_n 0, 1) := by decide +kernel
theorem dX0_removeLastEvent_104 : decode cX0_removeLastEvent 104 = .ok (.getfield 18, 3) := by decide +kernel
theorem dX0_removeLastEvent_107 : decode cX0_removeLastEvent 107 = .ok (.aload_n 0, 1) := by decide +kernel
theorem dX0_removeLastEvent_108 : decode cX0_removeLastEvent 108 = .ok (.getfield 58, 3) := by decide +kernel
theorem dX0_removeLastEvent_111 : decode cX0_removeLastEvent 111 = .ok (.iaload, 1) := by decide +kernel
theorem dX0_removeLastEvent_112 : decode cX0_removeLastEvent 112 = .ok (.iconst (-1), 1) := by decide +kernel
theorem dX0_removeLastEvent_113 : decode cX0_removeLastEvent 113 = .ok (.iastore, 1) := by decide +kernel
theorem dX0_removeLastEvent_114 : decode cX0_removeLastEvent 114 = .ok (.goto 10, 3) := by decide +kernel
theorem dX0_removeLastEvent_117 : decode cX0_removeLastEvent 117 = .ok (.aload_n 0, 1) := by decide +kernel
theorem dX0_removeLastEvent_118 : decode cX0_removeLastEvent 118 = .ok (.getfield 48, 3) := by decide +kernel
theorem dX0_removeLastEvent_121 : decode cX0_removeLastEvent 121 = .ok (.iload_n 1, 1) := by decide +kernel
theorem dX0_removeLastEvent_122 : decode cX0_removeLastEvent 122 = .ok (.iconst 0, 1) := by decide +kernel
theorem dX0_removeLastEvent_123 : decode cX0_removeLastEvent 123 = .ok (.bastore, 1) := by decide +kernel
theorem dX0_removeLastEvent_124 : decode cX0_removeLastEvent 124 = .ok (.return_, 1) := by decide +kernel
theorem dX0_mostPending_0 : decode cX0_mostPending 0 = .ok (.iconst 0, 1) := by decide +kernel
theorem dX0_mostPending_1 : decode cX0_mostPending 1 = .ok (.istore_n 1, 1) := by decide +kernel
theorem dX0_mostPending_2 : decode cX0_mostPending 2 = .ok (.iconst 0, 1) := by decide +kernel
theorem dX0_mostPending_3 : decode cX0_mostPending 3 = .ok (.istore_n 2, 1) := by decide +kernel
theorem dX0_mostPending_4 : decode cX0_mostPending 4 = .ok (.iconst 0, 1) := by decide +kernel
theorem dX0_mostPending_5 : decode cX0_mostPending 5 = .ok (.istore_n 3, 1) := by decide +kernel
theorem dX0_mostPending_6 : decode cX0_mostPending 6 = .ok (.iload_n 3, 1) := by decide +kernel
theorem dX0_mostPending_7 : decode cX0_mostPending 7 = .ok (.aload_n 0, 1) := by decide +kernel
theorem dX0_mostPending_8 : decode cX0_mostPending 8 = .ok (.getfield 58, 3) := by decide +kernel
theorem dX0_mostPending_11 : decode cX0_mostPending 11 = .ok (.if_icmp .ge 43, 3) := by decide +kernel
theorem dX0_mostPending_14 : decode cX0_mostPending 14 = .ok (.aload_n 0, 1) := by decide +kernel
theorem dX0_mostPending_15 : decode cX0_mostPending 15 = .ok (.getfield 9, 3) := by decide +kernel
theorem dX0_mostPending_18 : decode cX0_mostPending 18 = .ok (.iload_n 3, 1) := by decide +kernel
theorem dX0_mostPending_19 : decode cX0_mostPending 19 = .ok (.iaload, 1) := by decide +kernel
theorem dX0_mostPending_20 : decode cX0_mostPending 20 = .ok (.ifCond .ne 9, 3) := by decide +kernel
theorem dX0_mostPending_23 : decode cX0_mostPending 23 = .ok (.iinc 1 1, 3) := by decide +kernel
theorem dX0_mostPending_26 : decode cX0_mostPending 26 = .ok (.goto 16, 3) := by decide +kernel
theorem dX0_mostPending_29 : decode cX0_mostPending 29 = .ok (.aload_n 0, 1) := by decide +kernel
theorem dX0_mostPending_30 : decode cX0_mostPending 30 = .ok (.getfield 9, 3) := by decide +kernel
theorem dX0_mostPending_33 : decode cX0_mostPending 33 = .ok (.iload_n 3, 1) := by decide +kernel
theorem dX0_mostPending_34 : decode cX0_mostPending 34 = .ok (.iaload, 1) := by decide +kernel
theorem dX0_mostPending_35 : decode cX0_mostPending 35 = .ok (.iconst 1, 1) := by decide +kernel
theorem dX0_mostPending_36 : decode cX0_mostPending 36 = .ok (.if_icmp .ne 6, 3) := by decide +kernel
theorem dX0_mostPending_39 : decode cX0_mostPending 39 = .ok (.iinc 1 (-1), 3) := by decide +kernel
theorem dX0_mostPending_42 : decode cX0_mostPending 42 = .ok (.iload_n 2, 1) := by decide +kernel
theorem dX0_mostPending_43 : decode cX0_mostPending 43 = .ok (.iload_n 1, 1) := by decide +kernel
theorem dX0_mostPending_44 : decode cX0_mostPending 44 = .ok (.invokestatic 80, 3) := by decide +kernel
theorem dX0_mostPending_47 : decode cX0_mostPending 47 = .ok (.istore_n 2, 1) := by decide +kernel
theorem dX0_mostPending_48 : decode cX0_mostPending 48 = .ok (.iinc 3 1, 3) := by decide +kernel
theorem dX0_mostPending_51 : decode cX0_mostPending 51 = .ok (.goto (-45), 3) := by decide +kernel
theorem dX0_mostPending_54 : decode cX0_mostPending 54 = .ok (.iload_n 2, 1) := by decide +kernel
theorem dX0_mostPending_55 : decode cX0_mostPending 55 = .ok (.ireturn, 1) := by decide +kernel
theorem dX0_chainLength_0 : decode cX0_chainLength 0 = .ok (.iconst 0, 1) := by decide +kernel
theorem dX0_chainLength_1 : decode cX0_chainLength 1 = .ok (.istore_n 1, 1) := by decide +kernel
theorem dX0_chainLength_2 : decode cX0_chainLength 2 = .ok (.iconst 0, 1) := by decide +kernel
theorem dX0_chainLength_3 : decode cX0_chainLength 3 = .ok (.istore_n 2, 1) := by decide +kernel
theorem dX0_chainLength_4 : decode cX0_chainLength 4 = .ok (.iload_n 2, 1) := by decide +kernel
theorem dX0_chainLength_5 : decode cX0_chainLength 5 = .ok (.aload_n 0, 1) := by decide +kernel
theorem dX0_chainLength_6 : decode cX0_chainLength 6 = .ok (.getfield 62, 3) := by decide +kernel
theorem dX0_chainLength_9 : decode cX0_chainLength 9 = .ok (.if_icmp .ge 72, 3) := by decide +kernel
theorem dX0_chainLength_12 : decode cX0_chainLength 12 = .ok (.aload_n 0, 1) := by decide +kernel
theorem dX0_chainLength_13 : decode cX0_chainLength 13 = .ok (.getfield 52, 3) := by decide +kernel
theorem dX0_chainLength_16 : decode cX0_chainLength 16 = .ok (.iload_n 2, 1) := by decide +kernel
theorem dX0_chainLength_17 : decode cX0_chainLength 17 = .ok (.iconst 1, 1) := by decide +kernel
theorem dX0_chainLength_18 : decode cX0_chainLength 18 = .ok (.iastore, 1) := by decide +kernel
theorem dX0_chainLength_19 : decode cX0_chainLength 19 = .ok (.iconst 0, 1) := by decide +kernel
theorem dX0_chainLength_20 : decode cX0_chainLength 20 = .ok (.istore_n 3, 1) := by decide +kernel
theorem dX0_chainLength_21 : decode cX0_chainLength 21 = .ok (.iload_n 3, 1) := by decide +kernel
theorem dX0_chainLength_22 : decode cX0_chainLength 22 = .ok (.iload_n 2, 1) := by decide +kernel
theorem dX0_chainLength_23 : decode cX0_chainLength 23 = .ok (.if_icmp .ge 41, 3) := by decide +kernel
theorem dX0_chainLength_26 : decode cX0_chainLength 26 = .ok (.aload_n 0, 1) := by decide +kernel
theorem dX0_chainLength_27 : decode cX0_chainLength 27 = .ok (.iload_n 3, 1) := by decide +kernel
theorem dX0_chainLength_28 : decode cX0_chainLength 28 = .ok (.iload_n 2, 1) := by decide +kernel
theorem dX0_chainLength_29 : decode cX0_chainLength 29 = .ok (.invokevirtual 86, 3) := by decide +kernel
theorem dX0_chainLength_32 : decode cX0_chainLength 32 = .ok (.ifCond .eq 26, 3) := by decide +kernel
theorem dX0_chainLength_35 : decode cX0_chainLength 35 = .ok (.aload_n 0, 1) := by decide +kernel
theorem dX0_chainLength_36 : decode cX0_chainLength 36 = .ok (.getfield 52, 3) := by decide +kernel
theorem dX0_chainLength_39 : decode cX0_chainLength 39 = .ok (.iload_n 2, 1) := by decide +kernel
theorem dX0_chainLength_40 : decode cX0_chainLength 40 = .ok (.aload_n 0, 1) := by decide +kernel
theorem dX0_chainLength_41 : decode cX0_chainLength 41 = .ok (.getfield 52, 3) := by decide +kernel
theorem dX0_chainLength_44 : decode cX0_chainLength 44 = .ok (.iload_n 2, 1) := by decide +kernel
theorem dX0_chainLength_45 : decode cX0_chainLength 45 = .ok (.iaload, 1) := by decide +kernel
theorem dX0_chainLength_46 : decode cX0_chainLength 46 = .ok (.aload_n 0, 1) := by decide +kernel
theorem dX0_chainLength_47 : decode cX0_chainLength 47 = .ok (.getfield 52, 3) := by decide +kernel
theorem dX0_chainLength_50 : decode cX0_chainLength 50 = .ok (.iload_n 3, 1) := by decide +kernel
theorem dX0_chainLength_51 : decode cX0_chainLength 51 = .ok (.iaload, 1) := by decide +kernel
theorem dX0_chainLength_52 : decode cX0_chainLength 52 = .ok (.iconst 1, 1) := by decide +kernel
theorem dX0_chainLength_53 : decode cX0_chainLength 53 = .ok (.iadd, 1) := by decide +kernel
theorem dX0_chainLength_54 : decode cX0_chainLength 54 = .ok (.invokestatic 80, 3) := by decide +kernel
theorem dX0_chainLength_57 : decode cX0_chainLength 57 = .ok (.iastore, 1) := by decide +kernel
theorem dX0_chainLength_58 : decode cX0_chainLength 58 = .ok (.iinc 3 1, 3) := by decide +kernel
theorem dX0_chainLength_61 : decode cX0_chainLength 61 = .ok (.goto (-40), 3) := by decide +kernel
theorem dX0_chainLength_64 : decode cX0_chainLength 64 = .ok (.iload_n 1, 1) := by decide +kernel
theorem dX0_chainLength_65 : decode cX0_chainLength 65 = .ok (.aload_n 0, 1) := by decide +kernel
theorem dX0_chainLength_66 : decode cX0_chainLength 66 = .ok (.getfield 52, 3) := by decide +kernel
theorem dX0_chainLength_69 : decode cX0_chainLength 69 = .ok (.iload_n 2, 1) := by decide +kernel
theorem dX0_chainLength_70 : decode cX0_chainLength 70 = .ok (.iaload, 1) := by decide +kernel
theorem dX0_chainLength_71 : decode cX0_chainLength 71 = .ok (.invokestatic 80, 3) := by decide +kernel
theorem dX0_chainLength_74 : decode cX0_chainLength 74 = .ok (.istore_n 1, 1) := by decide +kernel
theorem dX0_chainLength_75 : decode cX0_chainLength 75 = .ok (.iinc 2 1, 3) := by decide +kernel
theorem dX0_chainLength_78 : decode cX0_chainLength 78 = .ok (.goto (-74), 3) := by decide +kernel
theorem dX0_chainLength_81 : decode cX0_chainLength 81 = .ok (.iload_n 1, 1) := by decide +kernel
theorem dX0_chainLength_82 : decode cX0_chainLength 82 = .ok (.ireturn, 1) := by decide +kernel
theorem dX0_copyHistory_0 : decode cX0_copyHistory 0 = .ok (.aload_n 0, 1) := by decide +kernel
theorem dX0_copyHistory_1 : decode cX0_copyHistory 1 = .ok (.aload_n 1, 1) := by decide +kernel
theorem dX0_copyHistory_2 : decode cX0_copyHistory 2 = .ok (.getfield 58, 3) := by decide +kernel
theorem dX0_copyHistory_5 : decode cX0_copyHistory 5 = .ok (.putfield 58, 3) := by decide +kernel
theorem dX0_copyHistory_8 : decode cX0_copyHistory 8 = .ok (.aload_n 1, 1) := by decide +kernel
theorem dX0_copyHistory_9 : decode cX0_copyHistory 9 = .ok (.getfield 9, 3) := by decide +kernel
theorem dX0_copyHistory_12 : decode cX0_copyHistory 12 = .ok (.iconst 0, 1) := by decide +kernel
theorem dX0_copyHistory_13 : decode cX0_copyHistory 13 = .ok (.aload_n 0, 1) := by decide +kernel
theorem dX0_copyHistory_14 : decode cX0_copyHistory 14 = .ok (.getfield 9, 3) := by decide +kernel
theorem dX0_copyHistory_17 : decode cX0_copyHistory 17 = .ok (.iconst 0, 1) := by decide +kernel
theorem dX0_copyHistory_18 : decode cX0_copyHistory 18 = .ok (.bipush 24, 2) := by decide +kernel
theorem dX0_copyHistory_20 : decode cX0_copyHistory 20 = .ok (.invokestatic 90, 3) := by decide +kernel
theorem dX0_copyHistory_23 : decode cX0_copyHistory 23 = .ok (.aload_n 1, 1) := by decide +kernel
theorem dX0_copyHistory_24 : decode cX0_copyHistory 24 = .ok (.getfield 15, 3) := by decide +kernel
theorem dX0_copyHistory_27 : decode cX0_copyHistory 27 = .ok (.iconst 0, 1) := by decide +kernel
theorem dX0_copyHistory_28 : decode cX0_copyHistory 28 = .ok (.aload_n 0, 1) := by decide +kernel
theorem dX0_copyHistory_29 : decode cX0_copyHistory 29 = .ok (.getfield 15, 3) := by decide +kernel
theorem dX0_copyHistory_32 : decode cX0_copyHistory 32 = .ok (.iconst 0, 1) := by decide +kernel
theorem dX0_copyHistory_33 : decode cX0_copyHistory 33 = .ok (.bipush 24, 2) := by decide +kernel
theorem dX0_copyHistory_35 : decode cX0_copyHistory 35 = .ok (.invokestatic 90, 3) := by decide +kernel
theorem dX0_copyHistory_38 : decode cX0_copyHistory 38 = .ok (.aload_n 1, 1) := by decide +kernel
theorem dX0_copyHistory_39 : decode cX0_copyHistory 39 = .ok (.getfield 18, 3) := by decide +kernel
theorem dX0_copyHistory_42 : decode cX0_copyHistory 42 = .ok (.iconst 0, 1) := by decide +kernel
theorem dX0_copyHistory_43 : decode cX0_copyHistory 43 = .ok (.aload_n 0, 1) := by decide +kernel
theorem dX0_copyHistory_44 : decode cX0_copyHistory 44 = .ok (.getfield 18, 3) := by decide +kernel
theorem dX0_copyHistory_47 : decode cX0_copyHistory 47 = .ok (.iconst 0, 1) := by decide +kernel
theorem dX0_copyHistory_48 : decode cX0_copyHistory 48 = .ok (.bipush 24, 2) := by decide +kernel
theorem dX0_copyHistory_50 : decode cX0_copyHistory 50 = .ok (.invokestatic 90, 3) := by decide +kernel
theorem dX0_copyHistory_53 : decode cX0_copyHistory 53 = .ok (.aload_n 0, 1) := by decide +kernel
theorem dX0_copyHistory_54 : decode cX0_copyHistory 54 = .ok (.aload_n 1, 1) := by decide +kernel
theorem dX0_copyHistory_55 : decode cX0_copyHistory 55 = .ok (.getfield 62, 3) := by decide +kernel
theorem dX0_copyHistory_58 : decode cX0_copyHistory 58 = .ok (.putfield 62, 3) := by decide +kernel
theorem dX0_copyHistory_61 : decode cX0_copyHistory 61 = .ok (.aload_n 1, 1) := by decide +kernel
theorem dX0_copyHistory_62 : decode cX0_copyHistory 62 = .ok (.getfield 21, 3) := by decide +kernel
theorem dX0_copyHistory_65 : decode cX0_copyHistory 65 = .ok (.iconst 0, 1) := by decide +kernel
theorem dX0_copyHistory_66 : decode cX0_copyHistory 66 = .ok (.aload_n 0, 1) := by decide +kernel
theorem dX0_copyHistory_67 : decode cX0_copyHistory 67 = .ok (.getfield 21, 3) := by decide +kernel
theorem dX0_copyHistory_70 : decode cX0_copyHistory 70 = .ok (.iconst 0, 1) := by decide +kernel
theorem dX0_copyHistory_71 : decode cX0_copyHistory 71 = .ok (.bipush 10, 2) := by decide +kernel
theorem dX0_copyHistory_73 : decode cX0_copyHistory 73 = .ok (.invokestatic 90, 3) := by decide +kernel
theorem dX0_copyHistory_76 : decode cX0_copyHistory 76 = .ok (.aload_n 1, 1) := by decide +kernel
theorem dX0_copyHistory_77 : decode cX0_copyHistory 77 = .ok (.getfield 24, 3) := by decide +kernel
theorem dX0_copyHistory_80 : decode cX0_copyHistory 80 = .ok (.iconst 0, 1) := by decide +kernel
theorem dX0_copyHistory_81 : decode cX0_copyHistory 81 = .ok (.aload_n 0, 1) := by decide +kernel
theorem dX0_copyHistory_82 : decode cX0_copyHistory 82 = .ok (.getfield 24, 3) := by decide +kernel
theorem dX0_copyHistory_85 : decode cX0_copyHistory 85 = .ok (.iconst 0, 1) := by decide +kernel
theorem dX0_copyHistory_86 : decode cX0_copyHistory 86 = .ok (.bipush 10, 2) := by decide +kernel
theorem dX0_copyHistory_88 : decode cX0_copyHistory 88 = .ok (.invokestatic 90, 3) := by decide +kernel
theorem dX0_copyHistory_91 : decode cX0_copyHistory 91 = .ok (.aload_n 1, 1) := by decide +kernel
theorem dX0_copyHistory_92 : decode cX0_copyHistory 92 = .ok (.getfield 27, 3) := by decide +kernel
theorem dX0_copyHistory_95 : decode cX0_copyHistory 95 = .ok (.iconst 0, 1) := by decide +kernel
theorem dX0_copyHistory_96 : decode cX0_copyHistory 96 = .ok (.aload_n 0, 1) := by decide +kernel
theorem dX0_copyHistory_97 : decode cX0_copyHistory 97 = .ok (.getfield 27, 3) := by decide +kernel
theorem dX0_copyHistory_100 : decode cX0_copyHistory 100 = .ok (.iconst 0, 1) := by decide +kernel
theorem dX0_copyHistory_101 : decode cX0_copyHistory 101 = .ok (.bipush 10, 2) := by decide +kernel
theorem dX0_copyHistory_103 : decode cX0_copyHistory 103 = .ok (.invokestatic 90, 3) := by decide +kernel
theorem dX0_copyHistory_106 : decode cX0_copyHistory 106 = .ok (.aload_n 1, 1) := by decide +kernel
theorem dX0_copyHistory_107 : decode cX0_copyHistory 107 = .ok (.getfield 30, 3) := by decide +kernel
theorem dX0_copyHistory_110 : decode cX0_copyHistory 110 = .ok (.iconst 0, 1) := by decide +kernel
theorem dX0_copyHistory_111 : decode cX0_copyHistory 111 = .ok (.aload_n 0, 1) := by decide +kernel
theorem dX0_copyHistory_112 : decode cX0_copyHistory 112 = .ok (.getfield 30, 3) := by decide +kernel
theorem dX0_copyHistory_115 : decode cX0_copyHistory 115 = .ok (.iconst 0, 1) := by decide +kernel
theorem dX0_copyHistory_116 : decode cX0_copyHistory 116 = .ok (.bipush 10, 2) := by decide +kernel
theorem dX0_copyHistory_118 : decode cX0_copyHistory 118 = .ok (.invokestatic 90, 3) := by decide +kernel
theorem dX0_copyHistory_121 : decode cX0_copyHistory 121 = .ok (.aload_n 1, 1) := by decide +kernel
theorem dX0_copyHistory_122 : decode cX0_copyHistory 122 = .ok (.getfield 33, 3) := by decide +kernel
theorem dX0_copyHistory_125 : decode cX0_copyHistory 125 = .ok (.iconst 0, 1) := by decide +kernel
theorem dX0_copyHistory_126 : decode cX0_copyHistory 126 = .ok (.aload_n 0, 1) := by decide +kernel
theorem dX0_copyHistory_127 : decode cX0_copyHistory 127 = .ok (.getfield 33, 3) := by decide +kernel
theorem dX0_copyHistory_130 : decode cX0_copyHistory 130 = .ok (.iconst 0, 1) := by decide +kernel
theorem dX0_copyHistory_131 : decode cX0_copyHistory 131 = .ok (.bipush 10, 2) := by decide +kernel
theorem dX0_copyHistory_133 : decode cX0_copyHistory 133 = .ok (.invokestatic 90, 3) := by decide +kernel
theorem dX0_copyHistory_136 : decode cX0_copyHistory 136 = .ok (.aload_n 1, 1) := by decide +kernel
theorem dX0_copyHistory_137 : decode cX0_copyHistory 137 = .ok (.getfield 36, 3) := by decide +kernel
theorem dX0_copyHistory_140 : decode cX0_copyHistory 140 = .ok (.iconst 0, 1) := by decide +kernel
theorem dX0_copyHistory_141 : decode cX0_copyHistory 141 = .ok (.aload_n 0, 1) := by decide +kernel
theorem dX0_copyHistory_142 : decode cX0_copyHistory 142 = .ok (.getfield 36, 3) := by decide +kernel
theorem dX0_copyHistory_145 : decode cX0_copyHistory 145 = .ok (.iconst 0, 1) := by decide +kernel
theorem dX0_copyHistory_146 : decode cX0_copyHistory 146 = .ok (.bipush 10, 2) := by decide +kernel
theorem dX0_copyHistory_148 : decode cX0_copyHistory 148 = .ok (.invokestatic 90, 3) := by decide +kernel
theorem dX0_copyHistory_151 : decode cX0_copyHistory 151 = .ok (.aload_n 1, 1) := by decide +kernel
theorem dX0_copyHistory_152 : decode cX0_copyHistory 152 = .ok (.getfield 39, 3) := by decide +kernel
theorem dX0_copyHistory_155 : decode cX0_copyHistory 155 = .ok (.iconst 0, 1) := by decide +kernel
theorem dX0_copyHistory_156 : decode cX0_copyHistory 156 = .ok (.aload_n 0, 1) := by decide +kernel
theorem dX0_copyHistory_157 : decode cX0_copyHistory 157 = .ok (.getfield 39, 3) := by decide +kernel
theorem dX0_copyHistory_160 : decode cX0_copyHistory 160 = .ok (.iconst 0, 1) := by decide +kernel
theorem dX0_copyHistory_161 : decode cX0_copyHistory 161 = .ok (.bipush 10, 2) := by decide +kernel
theorem dX0_copyHistory_163 : decode cX0_copyHistory 163 = .ok (.invokestatic 90, 3) := by decide +kernel
theorem dX0_copyHistory_166 : decode cX0_copyHistory 166 = .ok (.aload_n 1, 1) := by decide +kernel
theorem dX0_copyHistory_167 : decode cX0_copyHistory 167 = .ok (.getfield 42, 3) := by decide +kernel
theorem dX0_copyHistory_170 : decode cX0_copyHistory 170 = .ok (.iconst 0, 1) := by decide +kernel
theorem dX0_copyHistory_171 : decode cX0_copyHistory 171 = .ok (.aload_n 0, 1) := by decide +kernel
theorem dX0_copyHistory_172 : decode cX0_copyHistory 172 = .ok (.getfield 42, 3) := by decide +kernel
theorem dX0_copyHistory_175 : decode cX0_copyHistory 175 = .ok (.iconst 0, 1) := by decide +kernel
theorem dX0_copyHistory_176 : decode cX0_copyHistory 176 = .ok (.bipush 10, 2) := by decide +kernel
theorem dX0_copyHistory_178 : decode cX0_copyHistory 178 = .ok (.invokestatic 90, 3) := by decide +kernel
theorem dX0_copyHistory_181 : decode cX0_copyHistory 181 = .ok (.aload_n 1, 1) := by decide +kernel
theorem dX0_copyHistory_182 : decode cX0_copyHistory 182 = .ok (.getfield 45, 3) := by decide +kernel
theorem dX0_copyHistory_185 : decode cX0_copyHistory 185 = .ok (.iconst 0, 1) := by decide +kernel
theorem dX0_copyHistory_186 : decode cX0_copyHistory 186 = .ok (.aload_n 0, 1) := by decide +kernel
theorem dX0_copyHistory_187 : decode cX0_copyHistory 187 = .ok (.getfield 45, 3) := by decide +kernel
theorem dX0_copyHistory_190 : decode cX0_copyHistory 190 = .ok (.iconst 0, 1) := by decide +kernel
theorem dX0_copyHistory_191 : decode cX0_copyHistory 191 = .ok (.iconst 4, 1) := by decide +kernel
theorem dX0_copyHistory_192 : decode cX0_copyHistory 192 = .ok (.invokestatic 90, 3) := by decide +kernel
theorem dX0_copyHistory_195 : decode cX0_copyHistory 195 = .ok (.iconst 0, 1) := by decide +kernel
theorem dX0_copyHistory_196 : decode cX0_copyHistory 196 = .ok (.istore_n 2, 1) := by decide +kernel
theorem dX0_copyHistory_197 : decode cX0_copyHistory 197 = .ok (.iload_n 2, 1) := by decide +kernel
theorem dX0_copyHistory_198 : decode cX0_copyHistory 198 = .ok (.iconst 4, 1) := by decide +kernel
theorem dX0_copyHistory_199 : decode cX0_copyHistory 199 = .ok (.if_icmp .ge 21, 3) := by decide +kernel
theorem dX0_copyHistory_202 : decode cX0_copyHistory 202 = .ok (.aload_n 0, 1) := by decide +kernel
theorem dX0_copyHistory_203 : decode cX0_copyHistory 203 = .ok (.getfield 48, 3) := by decide +kernel
theorem dX0_copyHistory_206 : decode cX0_copyHistory 206 = .ok (.iload_n 2, 1) := by decide +kernel
theorem dX0_copyHistory_207 : decode cX0_copyHistory 207 = .ok (.aload_n 1, 1) := by decide +kernel
theorem dX0_copyHistory_208 : decode cX0_copyHistory 208 = .ok (.getfield 48, 3) := by decide +kernel
theorem dX0_copyHistory_211 : decode cX0_copyHistory 211 = .ok (.iload_n 2, 1) := by decide +kernel
theorem dX0_copyHistory_212 : decode cX0_copyHistory 212 = .ok (.baload, 1) := by decide +kernel
theorem dX0_copyHistory_213 : decode cX0_copyHistory 213 = .ok (.bastore, 1) := by decide +kernel
theorem dX0_copyHistory_214 : decode cX0_copyHistory 214 = .ok (.iinc 2 1, 3) := by decide +kernel
theorem dX0_copyHistory_217 : decode cX0_copyHistory 217 = .ok (.goto (-20), 3) := by decide +kernel
theorem dX0_copyHistory_220 : decode cX0_copyHistory 220 = .ok (.return_, 1) := by decide +kernel
theorem dX1_init_0 : decode cX1_init 0 = .ok (.aload_n 0, 1) := by decide +kernel
theorem dX1_init_1 : decode cX1_init 1 = .ok (.invokespecial 3, 3) := by decide +kernel
theorem dX1_init_4 : decode cX1_init 4 = .ok (.aload_n 0, 1) := by decide +kernel
theorem dX1_init_5 : decode cX1_init 5 = .ok (.iconst 4, 1) := by decide +kernel
theorem dX1_init_6 : decode cX1_init 6 = .ok (.newarray .int, 2) := by decide +kernel
theorem dX1_init_8 : decode cX1_init 8 = .ok (.putfield 9, 3) := by decide +kernel
theorem dX1_init_11 : decode cX1_init 11 = .ok (.aload_n 0, 1) := by decide +kernel
theorem dX1_init_12 : decode cX1_init 12 = .ok (.iconst 4, 1) := by decide +kernel
theorem dX1_init_13 : decode cX1_init 13 = .ok (.newarray .int, 2) := by decide +kernel
theorem dX1_init_15 : decode cX1_init 15 = .ok (.putfield 15, 3) := by decide +kernel
theorem dX1_init_18 : decode cX1_init 18 = .ok (.return_, 1) := by decide +kernel
theorem dX1_has_0 : decode cX1_has 0 = .ok (.iload_n 1, 1) := by decide +kernel
theorem dX1_has_1 : decode cX1_has 1 = .ok (.iconst 0, 1) := by decide +kernel
theorem dX1_has_2 : decode cX1_has 2 = .ok (.aload_n 0, 1) := by decide +kernel
theorem dX1_has_3 : decode cX1_has 3 = .ok (.getfield 18, 3) := by decide +kernel
theorem dX1_has_6 : decode cX1_has 6 = .ok (.iconst 1, 1) := by decide +kernel
theorem dX1_has_7 : decode cX1_has 7 = .ok (.isub, 1) := by decide +kernel
theorem dX1_has_8 : decode cX1_has 8 = .ok (.invokestatic 22, 3) := by decide +kernel
theorem dX1_has_11 : decode cX1_has 11 = .ok (.ireturn, 1) := by decide +kernel
theorem dX1_append_0 : decode cX1_append 0 = .ok (.aload_n 0, 1) := by decide +kernel
theorem dX1_append_1 : decode cX1_append 1 = .ok (.getfield 18, 3) := by decide +kernel
theorem dX1_append_4 : decode cX1_append 4 = .ok (.iconst 4, 1) := by decide +kernel
theorem dX1_append_5 : decode cX1_append 5 = .ok (.if_icmp .ge 33, 3) := by decide +kernel
theorem dX1_append_8 : decode cX1_append 8 = .ok (.aload_n 0, 1) := by decide +kernel
theorem dX1_append_9 : decode cX1_append 9 = .ok (.getfield 9, 3) := by decide +kernel
theorem dX1_append_12 : decode cX1_append 12 = .ok (.aload_n 0, 1) := by decide +kernel
theorem dX1_append_13 : decode cX1_append 13 = .ok (.getfield 18, 3) := by decide +kernel
theorem dX1_append_16 : decode cX1_append 16 = .ok (.iload_n 1, 1) := by decide +kernel
theorem dX1_append_17 : decode cX1_append 17 = .ok (.iastore, 1) := by decide +kernel
theorem dX1_append_18 : decode cX1_append 18 = .ok (.aload_n 0, 1) := by decide +kernel
theorem dX1_append_19 : decode cX1_append 19 = .ok (.getfield 15, 3) := by decide +kernel
theorem dX1_append_22 : decode cX1_append 22 = .ok (.aload_n 0, 1) := by decide +kernel
theorem dX1_append_23 : decode cX1_append 23 = .ok (.getfield 18, 3) := by decide +kernel
theorem dX1_append_26 : decode cX1_append 26 = .ok (.iload_n 2, 1) := by decide +kernel
theorem dX1_append_27 : decode cX1_append 27 = .ok (.iastore, 1) := by decide +kernel
theorem dX1_append_28 : decode cX1_append 28 = .ok (.aload_n 0, 1) := by decide +kernel
theorem dX1_append_29 : decode cX1_append 29 = .ok (.dup, 1) := by decide +kernel
theorem dX1_append_30 : decode cX1_append 30 = .ok (.getfield 18, 3) := by decide +kernel
theorem dX1_append_33 : decode cX1_append 33 = .ok (.iconst 1, 1) := by decide +kernel
theorem dX1_append_34 : decode cX1_append 34 = .ok (.iadd, 1) := by decide +kernel
theorem dX1_append_35 : decode cX1_append 35 = .ok (.putfield 18, 3) := by decide +kernel
theorem dX1_append_38 : decode cX1_append 38 = .ok (.return_, 1) := by decide +kernel
theorem dX1_copyObjects_0 : decode cX1_copyObjects 0 = .ok (.aload_n 0, 1) := by decide +kernel
theorem dX1_copyObjects_1 : decode cX1_copyObjects 1 = .ok (.aload_n 1, 1) := by decide +kernel
theorem dX1_copyObjects_2 : decode cX1_copyObjects 2 = .ok (.getfield 18, 3) := by decide +kernel
theorem dX1_copyObjects_5 : decode cX1_copyObjects 5 = .ok (.putfield 18, 3) := by decide +kernel
theorem dX1_copyObjects_8 : decode cX1_copyObjects 8 = .ok (.aload_n 1, 1) := by decide +kernel
theorem dX1_copyObjects_9 : decode cX1_copyObjects 9 = .ok (.getfield 9, 3) := by decide +kernel
theorem dX1_copyObjects_12 : decode cX1_copyObjects 12 = .ok (.iconst 0, 1) := by decide +kernel
theorem dX1_copyObjects_13 : decode cX1_copyObjects 13 = .ok (.aload_n 0, 1) := by decide +kernel
theorem dX1_copyObjects_14 : decode cX1_copyObjects 14 = .ok (.getfield 9, 3) := by decide +kernel
theorem dX1_copyObjects_17 : decode cX1_copyObjects 17 = .ok (.iconst 0, 1) := by decide +kernel
theorem dX1_copyObjects_18 : decode cX1_copyObjects 18 = .ok (.iconst 4, 1) := by decide +kernel
theorem dX1_copyObjects_19 : decode cX1_copyObjects 19 = .ok (.invokestatic 26, 3) := by decide +kernel
theorem dX1_copyObjects_22 : decode cX1_copyObjects 22 = .ok (.aload_n 1, 1) := by decide +kernel
theorem dX1_copyObjects_23 : decode cX1_copyObjects 23 = .ok (.getfield 15, 3) := by decide +kernel
theorem dX1_copyObjects_26 : decode cX1_copyObjects 26 = .ok (.iconst 0, 1) := by decide +kernel
theorem dX1_copyObjects_27 : decode cX1_copyObjects 27 = .ok (.aload_n 0, 1) := by decide +kernel
theorem dX1_copyObjects_28 : decode cX1_copyObjects 28 = .ok (.getfield 15, 3) := by decide +kernel
theorem dX1_copyObjects_31 : decode cX1_copyObjects 31 = .ok (.iconst 0, 1) := by decide +kernel
theorem dX1_copyObjects_32 : decode cX1_copyObjects 32 = .ok (.iconst 4, 1) := by decide +kernel
theorem dX1_copyObjects_33 : decode cX1_copyObjects 33 = .ok (.invokestatic 26, 3) := by decide +kernel
theorem dX1_copyObjects_36 : decode cX1_copyObjects 36 = .ok (.return_, 1) := by decide +kernel
theorem dX2_init_0 : decode cX2_init 0 = .ok (.aload_n 0, 1) := by decide +kernel
theorem dX2_init_1 : decode cX2_init 1 = .ok (.invokespecial 3, 3) := by decide +kernel
theorem dX2_init_4 : decode cX2_init 4 = .ok (.aload_n 0, 1) := by decide +kernel
theorem dX2_init_5 : decode cX2_init 5 = .ok (.bipush 10, 2) := by decide +kernel
theorem dX2_init_7 : decode cX2_init 7 = .ok (.newarray .int, 2) := by decide +kernel
theorem dX2_init_9 : decode cX2_init 9 = .ok (.putfield 9, 3) := by decide +kernel
theorem dX2_init_12 : decode cX2_init 12 = .ok (.return_, 1) := by decide +kernel
theorem dX2_empty_0 : decode cX2_empty 0 = .ok (.aload_n 0, 1) := by decide +kernel
theorem dX2_empty_1 : decode cX2_empty 1 = .ok (.iconst 0, 1) := by decide +kernel
theorem dX2_empty_2 : decode cX2_empty 2 = .ok (.putfield 15, 3) := by decide +kernel
theorem dX2_empty_5 : decode cX2_empty 5 = .ok (.return_, 1) := by decide +kernel
theorem dX2_positionOf_0 : decode cX2_positionOf 0 = .ok (.iconst 0, 1) := by decide +kernel
theorem dX2_positionOf_1 : decode cX2_positionOf 1 = .ok (.istore_n 2, 1) := by decide +kernel
theorem dX2_positionOf_2 : decode cX2_positionOf 2 = .ok (.iload_n 2, 1) := by decide +kernel
theorem dX2_positionOf_3 : decode cX2_positionOf 3 = .ok (.aload_n 0, 1) := by decide +kernel
theorem dX2_positionOf_4 : decode cX2_positionOf 4 = .ok (.getfield 15, 3) := by decide +kernel
theorem dX2_positionOf_7 : decode cX2_positionOf 7 = .ok (.if_icmp .ge 21, 3) := by decide +kernel
theorem dX2_positionOf_10 : decode cX2_positionOf 10 = .ok (.aload_n 0, 1) := by decide +kernel
theorem dX2_positionOf_11 : decode cX2_positionOf 11 = .ok (.getfield 9, 3) := by decide +kernel
theorem dX2_positionOf_14 : decode cX2_positionOf 14 = .ok (.iload_n 2, 1) := by decide +kernel
theorem dX2_positionOf_15 : decode cX2_positionOf 15 = .ok (.iaload, 1) := by decide +kernel
theorem dX2_positionOf_16 : decode cX2_positionOf 16 = .ok (.iload_n 1, 1) := by decide +kernel
theorem dX2_positionOf_17 : decode cX2_positionOf 17 = .ok (.if_icmp .ne 5, 3) := by decide +kernel
theorem dX2_positionOf_20 : decode cX2_positionOf 20 = .ok (.iload_n 2, 1) := by decide +kernel
theorem dX2_positionOf_21 : decode cX2_positionOf 21 = .ok (.ireturn, 1) := by decide +kernel
theorem dX2_positionOf_22 : decode cX2_positionOf 22 = .ok (.iinc 2 1, 3) := by decide +kernel
theorem dX2_positionOf_25 : decode cX2_positionOf 25 = .ok (.goto (-23), 3) := by decide +kernel
theorem dX2_positionOf_28 : decode cX2_positionOf 28 = .ok (.iconst (-1), 1) := by decide +kernel
theorem dX2_positionOf_29 : decode cX2_positionOf 29 = .ok (.ireturn, 1) := by decide +kernel
theorem dX2_append_0 : decode cX2_append 0 = .ok (.aload_n 0, 1) := by decide +kernel
theorem dX2_append_1 : decode cX2_append 1 = .ok (.getfield 15, 3) := by decide +kernel
theorem dX2_append_4 : decode cX2_append 4 = .ok (.bipush 10, 2) := by decide +kernel
theorem dX2_append_6 : decode cX2_append 6 = .ok (.if_icmp .ge 23, 3) := by decide +kernel
theorem dX2_append_9 : decode cX2_append 9 = .ok (.aload_n 0, 1) := by decide +kernel
theorem dX2_append_10 : decode cX2_append 10 = .ok (.getfield 9, 3) := by decide +kernel
theorem dX2_append_13 : decode cX2_append 13 = .ok (.aload_n 0, 1) := by decide +kernel
theorem dX2_append_14 : decode cX2_append 14 = .ok (.getfield 15, 3) := by decide +kernel
theorem dX2_append_17 : decode cX2_append 17 = .ok (.iload_n 1, 1) := by decide +kernel
theorem dX2_append_18 : decode cX2_append 18 = .ok (.iastore, 1) := by decide +kernel
theorem dX2_append_19 : decode cX2_append 19 = .ok (.aload_n 0, 1) := by decide +kernel
theorem dX2_append_20 : decode cX2_append 20 = .ok (.dup, 1) := by decide +kernel
theorem dX2_append_21 : decode cX2_append 21 = .ok (.getfield 15, 3) := by decide +kernel
theorem dX2_append_24 : decode cX2_append 24 = .ok (.iconst 1, 1) := by decide +kernel
theorem dX2_append_25 : decode cX2_append 25 = .ok (.iadd, 1) := by decide +kernel
theorem dX2_append_26 : decode cX2_append 26 = .ok (.putfield 15, 3) := by decide +kernel
theorem dX2_append_29 : decode cX2_append 29 = .ok (.return_, 1) := by decide +kernel
theorem dX2_removeAt_0 : decode cX2_removeAt 0 = .ok (.iload_n 1, 1) := by decide +kernel
theorem dX2_removeAt_1 : decode cX2_removeAt 1 = .ok (.iconst 0, 1) := by decide +kernel
theorem dX2_removeAt_2 : decode cX2_removeAt 2 = .ok (.aload_n 0, 1) := by decide +kernel
theorem dX2_removeAt_3 : decode cX2_removeAt 3 = .ok (.getfield 15, 3) := by decide +kernel
theorem dX2_removeAt_6 : decode cX2_removeAt 6 = .ok (.iconst 1, 1) := by decide +kernel
theorem dX2_removeAt_7 : decode cX2_removeAt 7 = .ok (.isub, 1) := by decide +kernel
theorem dX2_removeAt_8 : decode cX2_removeAt 8 = .ok (.invokestatic 19, 3) := by decide +kernel
theorem dX2_removeAt_11 : decode cX2_removeAt 11 = .ok (.ifCond .ne 4, 3) := by decide +kernel
theorem dX2_removeAt_14 : decode cX2_removeAt 14 = .ok (.return_, 1) := by decide +kernel
theorem dX2_removeAt_15 : decode cX2_removeAt 15 = .ok (.aload_n 0, 1) := by decide +kernel
theorem dX2_removeAt_16 : decode cX2_removeAt 16 = .ok (.dup, 1) := by decide +kernel
theorem dX2_removeAt_17 : decode cX2_removeAt 17 = .ok (.getfield 15, 3) := by decide +kernel
theorem dX2_removeAt_20 : decode cX2_removeAt 20 = .ok (.iconst 1, 1) := by decide +kernel
theorem dX2_removeAt_21 : decode cX2_removeAt 21 = .ok (.isub, 1) := by decide +kernel
theorem dX2_removeAt_22 : decode cX2_removeAt 22 = .ok (.putfield 15, 3) := by decide +kernel
theorem dX2_removeAt_25 : decode cX2_removeAt 25 = .ok (.iload_n 1, 1) := by decide +kernel
theorem dX2_removeAt_26 : decode cX2_removeAt 26 = .ok (.istore_n 2, 1) := by decide +kernel
theorem dX2_removeAt_27 : decode cX2_removeAt 27 = .ok (.iload_n 2, 1) := by decide +kernel
theorem dX2_removeAt_28 : decode cX2_removeAt 28 = .ok (.aload_n 0, 1) := by decide +kernel
theorem dX2_removeAt_29 : decode cX2_removeAt 29 = .ok (.getfield 15, 3) := by decide +kernel
theorem dX2_removeAt_32 : decode cX2_removeAt 32 = .ok (.if_icmp .ge 23, 3) := by decide +kernel
theorem dX2_removeAt_35 : decode cX2_removeAt 35 = .ok (.aload_n 0, 1) := by decide +kernel
theorem dX2_removeAt_36 : decode cX2_removeAt 36 = .ok (.getfield 9, 3) := by decide +kernel
theorem dX2_removeAt_39 : decode cX2_removeAt 39 = .ok (.iload_n 2, 1) := by decide +kernel
theorem dX2_removeAt_40 : decode cX2_removeAt 40 = .ok (.aload_n 0, 1) := by decide +kernel
theorem dX2_removeAt_41 : decode cX2_removeAt 41 = .ok (.getfield 9, 3) := by decide +kernel
theorem dX2_removeAt_44 : decode cX2_removeAt 44 = .ok (.iload_n 2, 1) := by decide +kernel
theorem dX2_removeAt_45 : decode cX2_removeAt 45 = .ok (.iconst 1, 1) := by decide +kernel
theorem dX2_removeAt_46 : decode cX2_removeAt 46 = .ok (.iadd, 1) := by decide +kernel
theorem dX2_removeAt_47 : decode cX2_removeAt 47 = .ok (.iaload, 1) := by decide +kernel
theorem dX2_removeAt_48 : decode cX2_removeAt 48 = .ok (.iastore, 1) := by decide +kernel
theorem dX2_removeAt_49 : decode cX2_removeAt 49 = .ok (.iinc 2 1, 3) := by decide +kernel
theorem dX2_removeAt_52 : decode cX2_removeAt 52 = .ok (.goto (-25), 3) := by decide +kernel
theorem dX2_removeAt_55 : decode cX2_removeAt 55 = .ok (.return_, 1) := by decide +kernel
theorem dX2_copyOrder_0 : decode cX2_copyOrder 0 = .ok (.aload_n 0, 1) := by decide +kernel
theorem dX2_copyOrder_1 : decode cX2_copyOrder 1 = .ok (.aload_n 1, 1) := by decide +kernel
theorem dX2_copyOrder_2 : decode cX2_copyOrder 2 = .ok (.getfield 15, 3) := by decide +kernel
theorem dX2_copyOrder_5 : decode cX2_copyOrder 5 = .ok (.putfield 15, 3) := by decide +kernel
theorem dX2_copyOrder_8 : decode cX2_copyOrder 8 = .ok (.aload_n 1, 1) := by decide +kernel
theorem dX2_copyOrder_9 : decode cX2_copyOrder 9 = .ok (.getfield 9, 3) := by decide +kernel
theorem dX2_copyOrder_12 : decode cX2_copyOrder 12 = .ok (.iconst 0, 1) := by decide +kernel
theorem dX2_copyOrder_13 : decode cX2_copyOrder 13 = .ok (.aload_n 0, 1) := by decide +kernel
theorem dX2_copyOrder_14 : decode cX2_copyOrder 14 = .ok (.getfield 9, 3) := by decide +kernel
theorem dX2_copyOrder_17 : decode cX2_copyOrder 17 = .ok (.iconst 0, 1) := by decide +kernel
theorem dX2_copyOrder_18 : decode cX2_copyOrder 18 = .ok (.bipush 10, 2) := by decide +kernel
theorem dX2_copyOrder_20 : decode cX2_copyOrder 20 = .ok (.invokestatic 23, 3) := by decide +kernel
theorem dX2_copyOrder_23 : decode cX2_copyOrder 23 = .ok (.return_, 1) := by decide +kernel
theorem dX3_init_0 : decode cX3_init 0 = .ok (.aload_n 0, 1) := by decide +kernel
theorem dX3_init_1 : decode cX3_init 1 = .ok (.invokespecial 3, 3) := by decide +kernel
theorem dX3_init_4 : decode cX3_init 4 = .ok (.aload_n 0, 1) := by decide +kernel
theorem dX3_init_5 : decode cX3_init 5 = .ok (.bipush 60, 2) := by decide +kernel
theorem dX3_init_7 : decode cX3_init 7 = .ok (.newarray .int, 2) := by decide +kernel
theorem dX3_init_9 : decode cX3_init 9 = .ok (.putfield 9, 3) := by decide +kernel
theorem dX3_init_12 : decode cX3_init 12 = .ok (.aload_n 0, 1) := by decide +kernel
theorem dX3_init_13 : decode cX3_init 13 = .ok (.bipush 60, 2) := by decide +kernel
theorem dX3_init_15 : decode cX3_init 15 = .ok (.newarray .int, 2) := by decide +kernel
theorem dX3_init_17 : decode cX3_init 17 = .ok (.putfield 15, 3) := by decide +kernel
theorem dX3_init_20 : decode cX3_init 20 = .ok (.aload_n 0, 1) := by decide +kernel
theorem dX3_init_21 : decode cX3_init 21 = .ok (.bipush 60, 2) := by decide +kernel
theorem dX3_init_23 : decode cX3_init 23 = .ok (.newarray .int, 2) := by decide +kernel
theorem dX3_init_25 : decode cX3_init 25 = .ok (.putfield 18, 3) := by decide +kernel
theorem dX3_init_28 : decode cX3_init 28 = .ok (.aload_n 0, 1) := by decide +kernel
theorem dX3_init_29 : decode cX3_init 29 = .ok (.bipush 60, 2) := by decide +kernel
theorem dX3_init_31 : decode cX3_init 31 = .ok (.newarray .int, 2) := by decide +kernel
theorem dX3_init_33 : decode cX3_init 33 = .ok (.putfield 21, 3) := by decide +kernel
theorem dX3_init_36 : decode cX3_init 36 = .ok (.aload_n 0, 1) := by decide +kernel
theorem dX3_init_37 : decode cX3_init 37 = .ok (.bipush 60, 2) := by decide +kernel
theorem dX3_init_39 : decode cX3_init 39 = .ok (.newarray .int, 2) := by decide +kernel
theorem dX3_init_41 : decode cX3_init 41 = .ok (.putfield 24, 3) := by decide +kernel
theorem dX3_init_44 : decode cX3_init 44 = .ok (.aload_n 0, 1) := by decide +kernel
theorem dX3_init_45 : decode cX3_init 45 = .ok (.bipush 60, 2) := by decide +kernel
theorem dX3_init_47 : decode cX3_init 47 = .ok (.newarray .int, 2) := by decide +kernel
theorem dX3_init_49 : decode cX3_init 49 = .ok (.putfield 27, 3) := by decide +kernel
theorem dX3_init_52 : decode cX3_init 52 = .ok (.aload_n 0, 1) := by decide +kernel
theorem dX3_init_53 : decode cX3_init 53 = .ok (.aload_n 1, 1) := by decide +kernel
theorem dX3_init_54 : decode cX3_init 54 = .ok (.putfield 30, 3) := by decide +kernel
theorem dX3_init_57 : decode cX3_init 57 = .ok (.return_, 1) := by decide +kernel
theorem dX3_readsAll_0 : decode cX3_readsAll 0 = .ok (.aload_n 0, 1) := by decide +kernel
theorem dX3_readsAll_1 : decode cX3_readsAll 1 = .ok (.iconst 0, 1) := by decide +kernel
theorem dX3_readsAll_2 : decode cX3_readsAll 2 = .ok (.putfield 34, 3) := by decide +kernel
theorem dX3_readsAll_5 : decode cX3_readsAll 5 = .ok (.aload_n 0, 1) := by decide +kernel
theorem dX3_readsAll_6 : decode cX3_readsAll 6 = .ok (.iconst 0, 1) := by decide +kernel
theorem dX3_readsAll_7 : decode cX3_readsAll 7 = .ok (.putfield 38, 3) := by decide +kernel
theorem dX3_readsAll_10 : decode cX3_readsAll 10 = .ok (.aload_n 0, 1) := by decide +kernel
theorem dX3_readsAll_11 : decode cX3_readsAll 11 = .ok (.iconst 0, 1) := by decide +kernel
theorem dX3_readsAll_12 : decode cX3_readsAll 12 = .ok (.putfield 41, 3) := by decide +kernel
theorem dX3_readsAll_15 : decode cX3_readsAll 15 = .ok (.aload_n 0, 1) := by decide +kernel
theorem dX3_readsAll_16 : decode cX3_readsAll 16 = .ok (.invokevirtual 45, 3) := by decide +kernel
theorem dX3_readsAll_19 : decode cX3_readsAll 19 = .ok (.iconst 1, 1) := by decide +kernel
theorem dX3_readsAll_20 : decode cX3_readsAll 20 = .ok (.istore_n 1, 1) := by decide +kernel
theorem dX3_readsAll_21 : decode cX3_readsAll 21 = .ok (.iload_n 1, 1) := by decide +kernel
theorem dX3_readsAll_22 : decode cX3_readsAll 22 = .ok (.bipush 60, 2) := by decide +kernel
theorem dX3_readsAll_24 : decode cX3_readsAll 24 = .ok (.if_icmp .ge 40, 3) := by decide +kernel
theorem dX3_readsAll_27 : decode cX3_readsAll 27 = .ok (.aload_n 0, 1) := by decide +kernel
theorem dX3_readsAll_28 : decode cX3_readsAll 28 = .ok (.getfield 41, 3) := by decide +kernel
theorem dX3_readsAll_31 : decode cX3_readsAll 31 = .ok (.ifCond .ne 33, 3) := by decide +kernel
theorem dX3_readsAll_34 : decode cX3_readsAll 34 = .ok (.aload_n 0, 1) := by decide +kernel
theorem dX3_readsAll_35 : decode cX3_readsAll 35 = .ok (.getfield 38, 3) := by decide +kernel
theorem dX3_readsAll_38 : decode cX3_readsAll 38 = .ok (.aload_n 0, 1) := by decide +kernel
theorem dX3_readsAll_39 : decode cX3_readsAll 39 = .ok (.getfield 30, 3) := by decide +kernel
theorem dX3_readsAll_42 : decode cX3_readsAll 42 = .ok (.getfield 48, 3) := by decide +kernel
theorem dX3_readsAll_45 : decode cX3_readsAll 45 = .ok (.if_icmp .ge 19, 3) := by decide +kernel
theorem dX3_readsAll_48 : decode cX3_readsAll 48 = .ok (.aload_n 0, 1) := by decide +kernel
theorem dX3_readsAll_49 : decode cX3_readsAll 49 = .ok (.bipush 59, 2) := by decide +kernel
theorem dX3_readsAll_51 : decode cX3_readsAll 51 = .ok (.invokevirtual 53, 3) := by decide +kernel
theorem dX3_readsAll_54 : decode cX3_readsAll 54 = .ok (.aload_n 0, 1) := by decide +kernel
theorem dX3_readsAll_55 : decode cX3_readsAll 55 = .ok (.invokevirtual 45, 3) := by decide +kernel
theorem dX3_readsAll_58 : decode cX3_readsAll 58 = .ok (.iinc 1 1, 3) := by decide +kernel
theorem dX3_readsAll_61 : decode cX3_readsAll 61 = .ok (.goto (-40), 3) := by decide +kernel
theorem dX3_readsAll_64 : decode cX3_readsAll 64 = .ok (.aload_n 0, 1) := by decide +kernel
theorem dX3_readsAll_65 : decode cX3_readsAll 65 = .ok (.getfield 41, 3) := by decide +kernel
theorem dX3_readsAll_68 : decode cX3_readsAll 68 = .ok (.ifCond .ne 7, 3) := by decide +kernel
theorem dX3_readsAll_71 : decode cX3_readsAll 71 = .ok (.iconst 1, 1) := by decide +kernel
theorem dX3_readsAll_72 : decode cX3_readsAll 72 = .ok (.goto 4, 3) := by decide +kernel
theorem dX3_readsAll_75 : decode cX3_readsAll 75 = .ok (.iconst 0, 1) := by decide +kernel
theorem dX3_readsAll_76 : decode cX3_readsAll 76 = .ok (.ireturn, 1) := by decide +kernel
theorem dX3_takeCommand_0 : decode cX3_takeCommand 0 = .ok (.aload_n 0, 1) := by decide +kernel
theorem dX3_takeCommand_1 : decode cX3_takeCommand 1 = .ok (.getfield 34, 3) := by decide +kernel
theorem dX3_takeCommand_4 : decode cX3_takeCommand 4 = .ok (.istore_n 1, 1) := by decide +kernel
theorem dX3_takeCommand_5 : decode cX3_takeCommand 5 = .ok (.iload_n 1, 1) := by decide +kernel
theorem dX3_takeCommand_6 : decode cX3_takeCommand 6 = .ok (.bipush 60, 2) := by decide +kernel
theorem dX3_takeCommand_8 : decode cX3_takeCommand 8 = .ok (.if_icmp .lt 9, 3) := by decide +kernel
theorem dX3_takeCommand_11 : decode cX3_takeCommand 11 = .ok (.aload_n 0, 1) := by decide +kernel
theorem dX3_takeCommand_12 : decode cX3_takeCommand 12 = .ok (.iconst 1, 1) := by decide +kernel
theorem dX3_takeCommand_13 : decode cX3_takeCommand 13 = .ok (.putfield 41, 3) := by decide +kernel
theorem dX3_takeCommand_16 : decode cX3_takeCommand 16 = .ok (.return_, 1) := by decide +kernel
theorem dX3_takeCommand_17 : decode cX3_takeCommand 17 = .ok (.aload_n 0, 1) := by decide +kernel
theorem dX3_takeCommand_18 : decode cX3_takeCommand 18 = .ok (.getfield 15, 3) := by decide +kernel
theorem dX3_takeCommand_21 : decode cX3_takeCommand 21 = .ok (.iload_n 1, 1) := by decide +kernel
theorem dX3_takeCommand_22 : decode cX3_takeCommand 22 = .ok (.aload_n 0, 1) := by decide +kernel
theorem dX3_takeCommand_23 : decode cX3_takeCommand 23 = .ok (.invokevirtual 57, 3) := by decide +kernel
theorem dX3_takeCommand_26 : decode cX3_takeCommand 26 = .ok (.iastore, 1) := by decide +kernel
theorem dX3_takeCommand_27 : decode cX3_takeCommand 27 = .ok (.aload_n 0, 1) := by decide +kernel
theorem dX3_takeCommand_28 : decode cX3_takeCommand 28 = .ok (.getfield 18, 3) := by decide +kernel
theorem dX3_takeCommand_31 : decode cX3_takeCommand 31 = .ok (.iload_n 1, 1) := by decide +kernel
theorem dX3_takeCommand_32 : decode cX3_takeCommand 32 = .ok (.iconst 0, 1) := by decide +kernel
theorem dX3_takeCommand_33 : decode cX3_takeCommand 33 = .ok (.iastore, 1) := by decide +kernel
theorem dX3_takeCommand_34 : decode cX3_takeCommand 34 = .ok (.aload_n 0, 1) := by decide +kernel
theorem dX3_takeCommand_35 : decode cX3_takeCommand 35 = .ok (.getfield 21, 3) := by decide +kernel
theorem dX3_takeCommand_38 : decode cX3_takeCommand 38 = .ok (.iload_n 1, 1) := by decide +kernel
theorem dX3_takeCommand_39 : decode cX3_takeCommand 39 = .ok (.iconst 0, 1) := by decide +kernel
theorem dX3_takeCommand_40 : decode cX3_takeCommand 40 = .ok (.iastore, 1) := by decide +kernel
theorem dX3_takeCommand_41 : decode cX3_takeCommand 41 = .ok (.aload_n 0, 1) := by decide +kernel
theorem dX3_takeCommand_42 : decode cX3_takeCommand 42 = .ok (.getfield 24, 3) := by decide +kernel
theorem dX3_takeCommand_45 : decode cX3_takeCommand 45 = .ok (.iload_n 1, 1) := by decide +kernel
theorem dX3_takeCommand_46 : decode cX3_takeCommand 46 = .ok (.iconst 0, 1) := by decide +kernel
theorem dX3_takeCommand_47 : decode cX3_takeCommand 47 = .ok (.iastore, 1) := by decide +kernel
theorem dX3_takeCommand_48 : decode cX3_takeCommand 48 = .ok (.aload_n 0, 1) := by decide +kernel
theorem dX3_takeCommand_49 : decode cX3_takeCommand 49 = .ok (.getfield 27, 3) := by decide +kernel
theorem dX3_takeCommand_52 : decode cX3_takeCommand 52 = .ok (.iload_n 1, 1) := by decide +kernel
theorem dX3_takeCommand_53 : decode cX3_takeCommand 53 = .ok (.iconst 0, 1) := by decide +kernel
theorem dX3_takeCommand_54 : decode cX3_takeCommand 54 = .ok (.iastore, 1) := by decide +kernel
theorem dX3_takeCommand_55 : decode cX3_takeCommand 55 = .ok (.aload_n 0, 1) := by decide +kernel
theorem dX3_takeCommand_56 : decode cX3_takeCommand 56 = .ok (.bipush 33, 2) := by decide +kernel
theorem dX3_takeCommand_58 : decode cX3_takeCommand 58 = .ok (.invokevirtual 61, 3) := by decide +kernel
theorem dX3_takeCommand_61 : decode cX3_takeCommand 61 = .ok (.ifCond .eq 19, 3) := by decide +kernel
theorem dX3_takeCommand_64 : decode cX3_takeCommand 64 = .ok (.aload_n 0, 1) := by decide +kernel
theorem dX3_takeCommand_65 : decode cX3_takeCommand 65 = .ok (.getfield 9, 3) := by decide +kernel
theorem dX3_takeCommand_68 : decode cX3_takeCommand 68 = .ok (.iload_n 1, 1) := by decide +kernel
theorem dX3_takeCommand_69 : decode cX3_takeCommand 69 = .ok (.iconst 2, 1) := by decide +kernel
theorem dX3_takeCommand_70 : decode cX3_takeCommand 70 = .ok (.iastore, 1) := by decide +kernel
theorem dX3_takeCommand_71 : decode cX3_takeCommand 71 = .ok (.aload_n 0, 1) := by decide +kernel
theorem dX3_takeCommand_72 : decode cX3_takeCommand 72 = .ok (.bipush 33, 2) := by decide +kernel
theorem dX3_takeCommand_74 : decode cX3_takeCommand 74 = .ok (.invokevirtual 53, 3) := by decide +kernel
theorem dX3_takeCommand_77 : decode cX3_takeCommand 77 = .ok (.goto 50, 3) := by decide +kernel
theorem dX3_takeCommand_80 : decode cX3_takeCommand 80 = .ok (.aload_n 0, 1) := by decide +kernel
theorem dX3_takeCommand_81 : decode cX3_takeCommand 81 = .ok (.bipush 61, 2) := by decide +kernel
theorem dX3_takeCommand_83 : decode cX3_takeCommand 83 = .ok (.invokevirtual 61, 3) := by decide +kernel
theorem dX3_takeCommand_86 : decode cX3_takeCommand 86 = .ok (.ifCond .eq 29, 3) := by decide +kernel
theorem dX3_takeCommand_89 : decode cX3_takeCommand 89 = .ok (.aload_n 0, 1) := by decide +kernel
theorem dX3_takeCommand_90 : decode cX3_takeCommand 90 = .ok (.getfield 9, 3) := by decide +kernel
theorem dX3_takeCommand_93 : decode cX3_takeCommand 93 = .ok (.iload_n 1, 1) := by decide +kernel
theorem dX3_takeCommand_94 : decode cX3_takeCommand 94 = .ok (.iconst 1, 1) := by decide +kernel
theorem dX3_takeCommand_95 : decode cX3_takeCommand 95 = .ok (.iastore, 1) := by decide +kernel
theorem dX3_takeCommand_96 : decode cX3_takeCommand 96 = .ok (.aload_n 0, 1) := by decide +kernel
theorem dX3_takeCommand_97 : decode cX3_takeCommand 97 = .ok (.bipush 61, 2) := by decide +kernel
theorem dX3_takeCommand_99 : decode cX3_takeCommand 99 = .ok (.invokevirtual 53, 3) := by decide +kernel
theorem dX3_takeCommand_102 : decode cX3_takeCommand 102 = .ok (.aload_n 0, 1) := by decide +kernel
theorem dX3_takeCommand_103 : decode cX3_takeCommand 103 = .ok (.getfield 24, 3) := by decide +kernel
theorem dX3_takeCommand_106 : decode cX3_takeCommand 106 = .ok (.iload_n 1, 1) := by decide +kernel
theorem dX3_takeCommand_107 : decode cX3_takeCommand 107 = .ok (.aload_n 0, 1) := by decide +kernel
theorem dX3_takeCommand_108 : decode cX3_takeCommand 108 = .ok (.invokevirtual 65, 3) := by decide +kernel
theorem dX3_takeCommand_111 : decode cX3_takeCommand 111 = .ok (.iastore, 1) := by decide +kernel
theorem dX3_takeCommand_112 : decode cX3_takeCommand 112 = .ok (.goto 15, 3) := by decide +kernel
theorem dX3_takeCommand_115 : decode cX3_takeCommand 115 = .ok (.aload_n 0, 1) := by decide +kernel
theorem dX3_takeCommand_116 : decode cX3_takeCommand 116 = .ok (.getfield 9, 3) := by decide +kernel
theorem dX3_takeCommand_119 : decode cX3_takeCommand 119 = .ok (.iload_n 1, 1) := by decide +kernel
theorem dX3_takeCommand_120 : decode cX3_takeCommand 120 = .ok (.iconst 0, 1) := by decide +kernel
theorem dX3_takeCommand_121 : decode cX3_takeCommand 121 = .ok (.iastore, 1) := by decide +kernel
theorem dX3_takeCommand_122 : decode cX3_takeCommand 122 = .ok (.aload_n 0, 1) := by decide +kernel
theorem dX3_takeCommand_123 : decode cX3_takeCommand 123 = .ok (.iload_n 1, 1) := by decide +kernel
theorem dX3_takeCommand_124 : decode cX3_takeCommand 124 = .ok (.invokevirtual 68, 3) := by decide +kernel
theorem dX3_takeCommand_127 : decode cX3_takeCommand 127 = .ok (.aload_n 0, 1) := by decide +kernel
theorem dX3_takeCommand_128 : decode cX3_takeCommand 128 = .ok (.dup, 1) := by decide +kernel
theorem dX3_takeCommand_129 : decode cX3_takeCommand 129 = .ok (.getfield 34, 3) := by decide +kernel
theorem dX3_takeCommand_132 : decode cX3_takeCommand 132 = .ok (.iconst 1, 1) := by decide +kernel
theorem dX3_takeCommand_133 : decode cX3_takeCommand 133 = .ok (.iadd, 1) := by decide +kernel
theorem dX3_takeCommand_134 : decode cX3_takeCommand 134 = .ok (.putfield 34, 3) := by decide +kernel
theorem dX3_takeCommand_137 : decode cX3_takeCommand 137 = .ok (.return_, 1) := by decide +kernel
theorem dX3_takeInvocation_0 : decode cX3_takeInvocation 0 = .ok (.aload_n 0, 1) := by decide +kernel
theorem dX3_takeInvocation_1 : decode cX3_takeInvocation 1 = .ok (.bipush 46, 2) := by decide +kernel
theorem dX3_takeInvocation_3 : decode cX3_takeInvocation 3 = .ok (.invokevirtual 53, 3) := by decide +kernel
theorem dX3_takeInvocation_6 : decode cX3_takeInvocation 6 = .ok (.aload_n 0, 1) := by decide +kernel
theorem dX3_takeInvocation_7 : decode cX3_takeInvocation 7 = .ok (.getfield 18, 3) := by decide +kernel
theorem dX3_takeInvocation_10 : decode cX3_takeInvocation 10 = .ok (.iload_n 1, 1) := by decide +kernel
theorem dX3_takeInvocation_11 : decode cX3_takeInvocation 11 = .ok (.aload_n 0, 1) := by decide +kernel
theorem dX3_takeInvocation_12 : decode cX3_takeInvocation 12 = .ok (.invokevirtual 57, 3) := by decide +kernel
theorem dX3_takeInvocation_15 : decode cX3_takeInvocation 15 = .ok (.iastore, 1) := by decide +kernel
theorem dX3_takeInvocation_16 : decode cX3_takeInvocation 16 = .ok (.aload_n 0, 1) := by decide +kernel
theorem dX3_takeInvocation_17 : decode cX3_takeInvocation 17 = .ok (.bipush 46, 2) := by decide +kernel
theorem dX3_takeInvocation_19 : decode cX3_takeInvocation 19 = .ok (.invokevirtual 53, 3) := by decide +kernel
theorem dX3_takeInvocation_22 : decode cX3_takeInvocation 22 = .ok (.aload_n 0, 1) := by decide +kernel
theorem dX3_takeInvocation_23 : decode cX3_takeInvocation 23 = .ok (.getfield 21, 3) := by decide +kernel
theorem dX3_takeInvocation_26 : decode cX3_takeInvocation 26 = .ok (.iload_n 1, 1) := by decide +kernel
theorem dX3_takeInvocation_27 : decode cX3_takeInvocation 27 = .ok (.aload_n 0, 1) := by decide +kernel
theorem dX3_takeInvocation_28 : decode cX3_takeInvocation 28 = .ok (.invokevirtual 72, 3) := by decide +kernel
theorem dX3_takeInvocation_31 : decode cX3_takeInvocation 31 = .ok (.iastore, 1) := by decide +kernel
theorem dX3_takeInvocation_32 : decode cX3_takeInvocation 32 = .ok (.aload_n 0, 1) := by decide +kernel
theorem dX3_takeInvocation_33 : decode cX3_takeInvocation 33 = .ok (.bipush 40, 2) := by decide +kernel
theorem dX3_takeInvocation_35 : decode cX3_takeInvocation 35 = .ok (.invokevirtual 53, 3) := by decide +kernel
theorem dX3_takeInvocation_38 : decode cX3_takeInvocation 38 = .ok (.aload_n 0, 1) := by decide +kernel
theorem dX3_takeInvocation_39 : decode cX3_takeInvocation 39 = .ok (.getfield 21, 3) := by decide +kernel
theorem dX3_takeInvocation_42 : decode cX3_takeInvocation 42 = .ok (.iload_n 1, 1) := by decide +kernel
theorem dX3_takeInvocation_43 : decode cX3_takeInvocation 43 = .ok (.iaload, 1) := by decide +kernel
theorem dX3_takeInvocation_44 : decode cX3_takeInvocation 44 = .ok (.invokestatic 75, 3) := by decide +kernel
theorem dX3_takeInvocation_47 : decode cX3_takeInvocation 47 = .ok (.istore_n 2, 1) := by decide +kernel
theorem dX3_takeInvocation_48 : decode cX3_takeInvocation 48 = .ok (.iload_n 2, 1) := by decide +kernel
theorem dX3_takeInvocation_49 : decode cX3_takeInvocation 49 = .ok (.iconst 1, 1) := by decide +kernel
theorem dX3_takeInvocation_50 : decode cX3_takeInvocation 50 = .ok (.if_icmp .lt 13, 3) := by decide +kernel
theorem dX3_takeInvocation_53 : decode cX3_takeInvocation 53 = .ok (.aload_n 0, 1) := by decide +kernel
theorem dX3_takeInvocation_54 : decode cX3_takeInvocation 54 = .ok (.getfield 24, 3) := by decide +kernel
theorem dX3_takeInvocation_57 : decode cX3_takeInvocation 57 = .ok (.iload_n 1, 1) := by decide +kernel
theorem dX3_takeInvocation_58 : decode cX3_takeInvocation 58 = .ok (.aload_n 0, 1) := by decide +kernel
theorem dX3_takeInvocation_59 : decode cX3_takeInvocation 59 = .ok (.invokevirtual 65, 3) := by decide +kernel
theorem dX3_takeInvocation_62 : decode cX3_takeInvocation 62 = .ok (.iastore, 1) := by decide +kernel
theorem dX3_takeInvocation_63 : decode cX3_takeInvocation 63 = .ok (.iload_n 2, 1) := by decide +kernel
theorem dX3_takeInvocation_64 : decode cX3_takeInvocation 64 = .ok (.iconst 2, 1) := by decide +kernel
theorem dX3_takeInvocation_65 : decode cX3_takeInvocation 65 = .ok (.if_icmp .lt 19, 3) := by decide +kernel
theorem dX3_takeInvocation_68 : decode cX3_takeInvocation 68 = .ok (.aload_n 0, 1) := by decide +kernel
theorem dX3_takeInvocation_69 : decode cX3_takeInvocation 69 = .ok (.bipush 44, 2) := by decide +kernel
theorem dX3_takeInvocation_71 : decode cX3_takeInvocation 71 = .ok (.invokevirtual 53, 3) := by decide +kernel
theorem dX3_takeInvocation_74 : decode cX3_takeInvocation 74 = .ok (.aload_n 0, 1) := by decide +kernel
theorem dX3_takeInvocation_75 : decode cX3_takeInvocation 75 = .ok (.getfield 27, 3) := by decide +kernel
theorem dX3_takeInvocation_78 : decode cX3_takeInvocation 78 = .ok (.iload_n 1, 1) := by decide +kernel
theorem dX3_takeInvocation_79 : decode cX3_takeInvocation 79 = .ok (.aload_n 0, 1) := by decide +kernel
theorem dX3_takeInvocation_80 : decode cX3_takeInvocation 80 = .ok (.invokevirtual 65, 3) := by decide +kernel
theorem dX3_takeInvocation_83 : decode cX3_takeInvocation 83 = .ok (.iastore, 1) := by decide +kernel
theorem dX3_takeInvocation_84 : decode cX3_takeInvocation 84 = .ok (.aload_n 0, 1) := by decide +kernel
theorem dX3_takeInvocation_85 : decode cX3_takeInvocation 85 = .ok (.bipush 41, 2) := by decide +kernel
theorem dX3_takeInvocation_87 : decode cX3_takeInvocation 87 = .ok (.invokevirtual 53, 3) := by decide +kernel
theorem dX3_takeInvocation_90 : decode cX3_takeInvocation 90 = .ok (.return_, 1) := by decide +kernel
theorem dX3_takeName_0 : decode cX3_takeName 0 = .ok (.iconst 0, 1) := by decide +kernel
theorem dX3_takeName_1 : decode cX3_takeName 1 = .ok (.istore_n 1, 1) := by decide +kernel
theorem dX3_takeName_2 : decode cX3_takeName 2 = .ok (.iconst 0, 1) := by decide +kernel
theorem dX3_takeName_3 : decode cX3_takeName 3 = .ok (.istore_n 2, 1) := by decide +kernel
theorem dX3_takeName_4 : decode cX3_takeName 4 = .ok (.iload_n 2, 1) := by decide +kernel
theorem dX3_takeName_5 : decode cX3_takeName 5 = .ok (.bipush 9, 2) := by decide +kernel
theorem dX3_takeName_7 : decode cX3_takeName 7 = .ok (.if_icmp .gt 57, 3) := by decide +kernel
theorem dX3_takeName_10 : decode cX3_takeName 10 = .ok (.iload_n 2, 1) := by decide +kernel
theorem dX3_takeName_11 : decode cX3_takeName 11 = .ok (.invokestatic 79, 3) := by decide +kernel
theorem dX3_takeName_14 : decode cX3_takeName 14 = .ok (.astore_n 3, 1) := by decide +kernel
theorem dX3_takeName_15 : decode cX3_takeName 15 = .ok (.aload_n 0, 1) := by decide +kernel
theorem dX3_takeName_16 : decode cX3_takeName 16 = .ok (.aload_n 3, 1) := by decide +kernel
theorem dX3_takeName_17 : decode cX3_takeName 17 = .ok (.invokevirtual 83, 3) := by decide +kernel
theorem dX3_takeName_20 : decode cX3_takeName 20 = .ok (.istore 4, 2) := by decide +kernel
theorem dX3_takeName_22 : decode cX3_takeName 22 = .ok (.iload 4, 2) := by decide +kernel
theorem dX3_takeName_24 : decode cX3_takeName 24 = .ok (.aload_n 3, 1) := by decide +kernel
theorem dX3_takeName_25 : decode cX3_takeName 25 = .ok (.invokevirtual 87, 3) := by decide +kernel
theorem dX3_takeName_28 : decode cX3_takeName 28 = .ok (.if_icmp .ne 23, 3) := by decide +kernel
theorem dX3_takeName_31 : decode cX3_takeName 31 = .ok (.aload_n 0, 1) := by decide +kernel
theorem dX3_takeName_32 : decode cX3_takeName 32 = .ok (.getfield 41, 3) := by decide +kernel
theorem dX3_takeName_35 : decode cX3_takeName 35 = .ok (.ifCond .ne 16, 3) := by decide +kernel
theorem dX3_takeName_38 : decode cX3_takeName 38 = .ok (.aload_n 0, 1) := by decide +kernel
theorem dX3_takeName_39 : decode cX3_takeName 39 = .ok (.dup, 1) := by decide +kernel
theorem dX3_takeName_40 : decode cX3_takeName 40 = .ok (.getfield 38, 3) := by decide +kernel
theorem dX3_takeName_43 : decode cX3_takeName 43 = .ok (.iload 4, 2) := by decide +kernel
theorem dX3_takeName_45 : decode cX3_takeName 45 = .ok (.iadd, 1) := by decide +kernel
theorem dX3_takeName_46 : decode cX3_takeName 46 = .ok (.putfield 38, 3) := by decide +kernel
theorem dX3_takeName_49 : decode cX3_takeName 49 = .ok (.iload_n 2, 1) := by decide +kernel
theorem dX3_takeName_50 : decode cX3_takeName 50 = .ok (.ireturn, 1) := by decide +kernel
theorem dX3_takeName_51 : decode cX3_takeName 51 = .ok (.iload_n 1, 1) := by decide +kernel
theorem dX3_takeName_52 : decode cX3_takeName 52 = .ok (.iload 4, 2) := by decide +kernel
theorem dX3_takeName_54 : decode cX3_takeName 54 = .ok (.invokestatic 91, 3) := by decide +kernel
theorem dX3_takeName_57 : decode cX3_takeName 57 = .ok (.istore_n 1, 1) := by decide +kernel
theorem dX3_takeName_58 : decode cX3_takeName 58 = .ok (.iinc 2 1, 3) := by decide +kernel
theorem dX3_takeName_61 : decode cX3_takeName 61 = .ok (.goto (-57), 3) := by decide +kernel
theorem dX3_takeName_64 : decode cX3_takeName 64 = .ok (.aload_n 0, 1) := by decide +kernel
theorem dX3_takeName_65 : decode cX3_takeName 65 = .ok (.getfield 41, 3) := by decide +kernel
theorem dX3_takeName_68 : decode cX3_takeName 68 = .ok (.ifCond .ne 18, 3) := by decide +kernel
theorem dX3_takeName_71 : decode cX3_takeName 71 = .ok (.aload_n 0, 1) := by decide +kernel
theorem dX3_takeName_72 : decode cX3_takeName 72 = .ok (.dup, 1) := by decide +kernel
theorem dX3_takeName_73 : decode cX3_takeName 73 = .ok (.getfield 38, 3) := by decide +kernel
theorem dX3_takeName_76 : decode cX3_takeName 76 = .ok (.iload_n 1, 1) := by decide +kernel
theorem dX3_takeName_77 : decode cX3_takeName 77 = .ok (.iadd, 1) := by decide +kernel
theorem dX3_takeName_78 : decode cX3_takeName 78 = .ok (.putfield 38, 3) := by decide +kernel
theorem dX3_takeName_81 : decode cX3_takeName 81 = .ok (.aload_n 0, 1) := by decide +kernel
theorem dX3_takeName_82 : decode cX3_takeName 82 = .ok (.iconst 1, 1) := by decide +kernel
theorem dX3_takeName_83 : decode cX3_takeName 83 = .ok (.putfield 41, 3) := by decide +kernel
theorem dX3_takeName_86 : decode cX3_takeName 86 = .ok (.iconst 0, 1) := by decide +kernel
theorem dX3_takeName_87 : decode cX3_takeName 87 = .ok (.ireturn, 1) := by decide +kernel
theorem dX3_agreeingCharacters_0 : decode cX3_agreeingCharacters 0 = .ok (.iconst 0, 1) := by decide +kernel
theorem dX3_agreeingCharacters_1 : decode cX3_agreeingCharacters 1 = .ok (.istore_n 2, 1) := by decide +kernel
theorem dX3_agreeingCharacters_2 : decode cX3_agreeingCharacters 2 = .ok (.iload_n 2, 1) := by decide +kernel
theorem dX3_agreeingCharacters_3 : decode cX3_agreeingCharacters 3 = .ok (.aload_n 1, 1) := by decide +kernel
theorem dX3_agreeingCharacters_4 : decode cX3_agreeingCharacters 4 = .ok (.invokevirtual 87, 3) := by decide +kernel
theorem dX3_agreeingCharacters_7 : decode cX3_agreeingCharacters 7 = .ok (.if_icmp .ge 27, 3) := by decide +kernel
theorem dX3_agreeingCharacters_10 : decode cX3_agreeingCharacters 10 = .ok (.aload_n 0, 1) := by decide +kernel
theorem dX3_agreeingCharacters_11 : decode cX3_agreeingCharacters 11 = .ok (.aload_n 0, 1) := by decide +kernel
theorem dX3_agreeingCharacters_12 : decode cX3_agreeingCharacters 12 = .ok (.getfield 38, 3) := by decide +kernel
theorem dX3_agreeingCharacters_15 : decode cX3_agreeingCharacters 15 = .ok (.iload_n 2, 1) := by decide +kernel
theorem dX3_agreeingCharacters_16 : decode cX3_agreeingCharacters 16 = .ok (.iadd, 1) := by decide +kernel
theorem dX3_agreeingCharacters_17 : decode cX3_agreeingCharacters 17 = .ok (.aload_n 1, 1) := by decide +kernel
theorem dX3_agreeingCharacters_18 : decode cX3_agreeingCharacters 18 = .ok (.iload_n 2, 1) := by decide +kernel
theorem dX3_agreeingCharacters_19 : decode cX3_agreeingCharacters 19 = .ok (.invokevirtual 97, 3) := by decide +kernel
theorem dX3_agreeingCharacters_22 : decode cX3_agreeingCharacters 22 = .ok (.invokevirtual 101, 3) := by decide +kernel
theorem dX3_agreeingCharacters_25 : decode cX3_agreeingCharacters 25 = .ok (.ifCond .eq 9, 3) := by decide +kernel
theorem dX3_agreeingCharacters_28 : decode cX3_agreeingCharacters 28 = .ok (.iinc 2 1, 3) := by decide +kernel
theorem dX3_agreeingCharacters_31 : decode cX3_agreeingCharacters 31 = .ok (.goto (-29), 3) := by decide +kernel
theorem dX3_agreeingCharacters_34 : decode cX3_agreeingCharacters 34 = .ok (.iload_n 2, 1) := by decide +kernel
theorem dX3_agreeingCharacters_35 : decode cX3_agreeingCharacters 35 = .ok (.ireturn, 1) := by decide +kernel
theorem dX3_takeNumber_0 : decode cX3_takeNumber 0 = .ok (.aload_n 0, 1) := by decide +kernel
theorem dX3_takeNumber_1 : decode cX3_takeNumber 1 = .ok (.bipush 45, 2) := by decide +kernel
theorem dX3_takeNumber_3 : decode cX3_takeNumber 3 = .ok (.invokevirtual 61, 3) := by decide +kernel
theorem dX3_takeNumber_6 : decode cX3_takeNumber 6 = .ok (.istore_n 1, 1) := by decide +kernel
theorem dX3_takeNumber_7 : decode cX3_takeNumber 7 = .ok (.iload_n 1, 1) := by decide +kernel
theorem dX3_takeNumber_8 : decode cX3_takeNumber 8 = .ok (.ifCond .eq 9, 3) := by decide +kernel
theorem dX3_takeNumber_11 : decode cX3_takeNumber 11 = .ok (.aload_n 0, 1) := by decide +kernel
theorem dX3_takeNumber_12 : decode cX3_takeNumber 12 = .ok (.bipush 45, 2) := by decide +kernel
theorem dX3_takeNumber_14 : decode cX3_takeNumber 14 = .ok (.invokevirtual 53, 3) := by decide +kernel
theorem dX3_takeNumber_17 : decode cX3_takeNumber 17 = .ok (.aload_n 0, 1) := by decide +kernel
theorem dX3_takeNumber_18 : decode cX3_takeNumber 18 = .ok (.invokevirtual 57, 3) := by decide +kernel
theorem dX3_takeNumber_21 : decode cX3_takeNumber 21 = .ok (.istore_n 2, 1) := by decide +kernel
theorem dX3_takeNumber_22 : decode cX3_takeNumber 22 = .ok (.iconst 1, 1) := by decide +kernel
theorem dX3_takeNumber_23 : decode cX3_takeNumber 23 = .ok (.istore_n 3, 1) := by decide +kernel
theorem dX3_takeNumber_24 : decode cX3_takeNumber 24 = .ok (.iload_n 3, 1) := by decide +kernel
theorem dX3_takeNumber_25 : decode cX3_takeNumber 25 = .ok (.iconst 3, 1) := by decide +kernel
theorem dX3_takeNumber_26 : decode cX3_takeNumber 26 = .ok (.if_icmp .ge 26, 3) := by decide +kernel
theorem dX3_takeNumber_29 : decode cX3_takeNumber 29 = .ok (.aload_n 0, 1) := by decide +kernel
theorem dX3_takeNumber_30 : decode cX3_takeNumber 30 = .ok (.invokevirtual 105, 3) := by decide +kernel
theorem dX3_takeNumber_33 : decode cX3_takeNumber 33 = .ok (.ifCond .eq 19, 3) := by decide +kernel
theorem dX3_takeNumber_36 : decode cX3_takeNumber 36 = .ok (.iload_n 2, 1) := by decide +kernel
theorem dX3_takeNumber_37 : decode cX3_takeNumber 37 = .ok (.bipush 10, 2) := by decide +kernel
theorem dX3_takeNumber_39 : decode cX3_takeNumber 39 = .ok (.imul, 1) := by decide +kernel
theorem dX3_takeNumber_40 : decode cX3_takeNumber 40 = .ok (.aload_n 0, 1) := by decide +kernel
theorem dX3_takeNumber_41 : decode cX3_takeNumber 41 = .ok (.invokevirtual 57, 3) := by decide +kernel
theorem dX3_takeNumber_44 : decode cX3_takeNumber 44 = .ok (.iadd, 1) := by decide +kernel
theorem dX3_takeNumber_45 : decode cX3_takeNumber 45 = .ok (.istore_n 2, 1) := by decide +kernel
theorem dX3_takeNumber_46 : decode cX3_takeNumber 46 = .ok (.iinc 3 1, 3) := by decide +kernel
theorem dX3_takeNumber_49 : decode cX3_takeNumber 49 = .ok (.goto (-25), 3) := by decide +kernel
theorem dX3_takeNumber_52 : decode cX3_takeNumber 52 = .ok (.iload_n 1, 1) := by decide +kernel
theorem dX3_takeNumber_53 : decode cX3_takeNumber 53 = .ok (.ifCond .eq 8, 3) := by decide +kernel
theorem dX3_takeNumber_56 : decode cX3_takeNumber 56 = .ok (.iload_n 2, 1) := by decide +kernel
theorem dX3_takeNumber_57 : decode cX3_takeNumber 57 = .ok (.ineg, 1) := by decide +kernel
theorem dX3_takeNumber_58 : decode cX3_takeNumber 58 = .ok (.goto 4, 3) := by decide +kernel
theorem dX3_takeNumber_61 : decode cX3_takeNumber 61 = .ok (.iload_n 2, 1) := by decide +kernel
theorem dX3_takeNumber_62 : decode cX3_takeNumber 62 = .ok (.ireturn, 1) := by decide +kernel
theorem dX3_takeDigit_0 : decode cX3_takeDigit 0 = .ok (.aload_n 0, 1) := by decide +kernel
theorem dX3_takeDigit_1 : decode cX3_takeDigit 1 = .ok (.getfield 41, 3) := by decide +kernel
theorem dX3_takeDigit_4 : decode cX3_takeDigit 4 = .ok (.ifCond .ne 10, 3) := by decide +kernel
theorem dX3_takeDigit_7 : decode cX3_takeDigit 7 = .ok (.aload_n 0, 1) := by decide +kernel
theorem dX3_takeDigit_8 : decode cX3_takeDigit 8 = .ok (.invokevirtual 105, 3) := by decide +kernel
theorem dX3_takeDigit_11 : decode cX3_takeDigit 11 = .ok (.ifCond .ne 10, 3) := by decide +kernel
theorem dX3_takeDigit_14 : decode cX3_takeDigit 14 = .ok (.aload_n 0, 1) := by decide +kernel
theorem dX3_takeDigit_15 : decode cX3_takeDigit 15 = .ok (.iconst 1, 1) := by decide +kernel
theorem dX3_takeDigit_16 : decode cX3_takeDigit 16 = .ok (.putfield 41, 3) := by decide +kernel
theorem dX3_takeDigit_19 : decode cX3_takeDigit 19 = .ok (.iconst 0, 1) := by decide +kernel
theorem dX3_takeDigit_20 : decode cX3_takeDigit 20 = .ok (.ireturn, 1) := by decide +kernel
theorem dX3_takeDigit_21 : decode cX3_takeDigit 21 = .ok (.aload_n 0, 1) := by decide +kernel
theorem dX3_takeDigit_22 : decode cX3_takeDigit 22 = .ok (.dup, 1) := by decide +kernel
theorem dX3_takeDigit_23 : decode cX3_takeDigit 23 = .ok (.getfield 38, 3) := by decide +kernel
theorem dX3_takeDigit_26 : decode cX3_takeDigit 26 = .ok (.iconst 1, 1) := by decide +kernel
theorem dX3_takeDigit_27 : decode cX3_takeDigit 27 = .ok (.iadd, 1) := by decide +kernel
theorem dX3_takeDigit_28 : decode cX3_takeDigit 28 = .ok (.putfield 38, 3) := by decide +kernel
theorem dX3_takeDigit_31 : decode cX3_takeDigit 31 = .ok (.aload_n 0, 1) := by decide +kernel
theorem dX3_takeDigit_32 : decode cX3_takeDigit 32 = .ok (.getfield 30, 3) := by decide +kernel
theorem dX3_takeDigit_35 : decode cX3_takeDigit 35 = .ok (.getfield 109, 3) := by decide +kernel
theorem dX3_takeDigit_38 : decode cX3_takeDigit 38 = .ok (.aload_n 0, 1) := by decide +kernel
theorem dX3_takeDigit_39 : decode cX3_takeDigit 39 = .ok (.getfield 38, 3) := by decide +kernel
theorem dX3_takeDigit_42 : decode cX3_takeDigit 42 = .ok (.iconst 1, 1) := by decide +kernel
theorem dX3_takeDigit_43 : decode cX3_takeDigit 43 = .ok (.isub, 1) := by decide +kernel
theorem dX3_takeDigit_44 : decode cX3_takeDigit 44 = .ok (.caload, 1) := by decide +kernel
theorem dX3_takeDigit_45 : decode cX3_takeDigit 45 = .ok (.bipush 48, 2) := by decide +kernel
theorem dX3_takeDigit_47 : decode cX3_takeDigit 47 = .ok (.isub, 1) := by decide +kernel
theorem dX3_takeDigit_48 : decode cX3_takeDigit 48 = .ok (.ireturn, 1) := by decide +kernel
theorem dX3_take_0 : decode cX3_take 0 = .ok (.aload_n 0, 1) := by decide +kernel
theorem dX3_take_1 : decode cX3_take 1 = .ok (.getfield 41, 3) := by decide +kernel
theorem dX3_take_4 : decode cX3_take 4 = .ok (.ifCond .ne 15, 3) := by decide +kernel
theorem dX3_take_7 : decode cX3_take 7 = .ok (.aload_n 0, 1) := by decide +kernel
theorem dX3_take_8 : decode cX3_take 8 = .ok (.aload_n 0, 1) := by decide +kernel
theorem dX3_take_9 : decode cX3_take 9 = .ok (.getfield 38, 3) := by decide +kernel
theorem dX3_take_12 : decode cX3_take 12 = .ok (.iload_n 1, 1) := by decide +kernel
theorem dX3_take_13 : decode cX3_take 13 = .ok (.invokevirtual 101, 3) := by decide +kernel
theorem dX3_take_16 : decode cX3_take 16 = .ok (.ifCond .ne 9, 3) := by decide +kernel
theorem dX3_take_19 : decode cX3_take 19 = .ok (.aload_n 0, 1) := by decide +kernel
theorem dX3_take_20 : decode cX3_take 20 = .ok (.iconst 1, 1) := by decide +kernel
theorem dX3_take_21 : decode cX3_take 21 = .ok (.putfield 41, 3) := by decide +kernel
theorem dX3_take_24 : decode cX3_take 24 = .ok (.return_, 1) := by decide +kernel
theorem dX3_take_25 : decode cX3_take 25 = .ok (.aload_n 0, 1) := by decide +kernel
theorem dX3_take_26 : decode cX3_take 26 = .ok (.dup, 1) := by decide +kernel
theorem dX3_take_27 : decode cX3_take 27 = .ok (.getfield 38, 3) := by decide +kernel
theorem dX3_take_30 : decode cX3_take 30 = .ok (.iconst 1, 1) := by decide +kernel
theorem dX3_take_31 : decode cX3_take 31 = .ok (.iadd, 1) := by decide +kernel
theorem dX3_take_32 : decode cX3_take 32 = .ok (.putfield 38, 3) := by decide +kernel
theorem dX3_take_35 : decode cX3_take 35 = .ok (.return_, 1) := by decide +kernel
theorem dX3_isNext_0 : decode cX3_isNext 0 = .ok (.aload_n 0, 1) := by decide +kernel
theorem dX3_isNext_1 : decode cX3_isNext 1 = .ok (.aload_n 0, 1) := by decide +kernel
theorem dX3_isNext_2 : decode cX3_isNext 2 = .ok (.getfield 38, 3) := by decide +kernel
theorem dX3_isNext_5 : decode cX3_isNext 5 = .ok (.iload_n 1, 1) := by decide +kernel
theorem dX3_isNext_6 : decode cX3_isNext 6 = .ok (.invokevirtual 101, 3) := by decide +kernel
theorem dX3_isNext_9 : decode cX3_isNext 9 = .ok (.ireturn, 1) := by decide +kernel
theorem dX3_isAt_0 : decode cX3_isAt 0 = .ok (.iload_n 1, 1) := by decide +kernel
theorem dX3_isAt_1 : decode cX3_isAt 1 = .ok (.iconst 0, 1) := by decide +kernel
theorem dX3_isAt_2 : decode cX3_isAt 2 = .ok (.aload_n 0, 1) := by decide +kernel
theorem dX3_isAt_3 : decode cX3_isAt 3 = .ok (.getfield 30, 3) := by decide +kernel
theorem dX3_isAt_6 : decode cX3_isAt 6 = .ok (.getfield 48, 3) := by decide +kernel
theorem dX3_isAt_9 : decode cX3_isAt 9 = .ok (.iconst 1, 1) := by decide +kernel
theorem dX3_isAt_10 : decode cX3_isAt 10 = .ok (.isub, 1) := by decide +kernel
theorem dX3_isAt_11 : decode cX3_isAt 11 = .ok (.invokestatic 113, 3) := by decide +kernel
theorem dX3_isAt_14 : decode cX3_isAt 14 = .ok (.ifCond .eq 20, 3) := by decide +kernel
theorem dX3_isAt_17 : decode cX3_isAt 17 = .ok (.aload_n 0, 1) := by decide +kernel
theorem dX3_isAt_18 : decode cX3_isAt 18 = .ok (.getfield 30, 3) := by decide +kernel
theorem dX3_isAt_21 : decode cX3_isAt 21 = .ok (.getfield 109, 3) := by decide +kernel
theorem dX3_isAt_24 : decode cX3_isAt 24 = .ok (.iload_n 1, 1) := by decide +kernel
theorem dX3_isAt_25 : decode cX3_isAt 25 = .ok (.caload, 1) := by decide +kernel
theorem dX3_isAt_26 : decode cX3_isAt 26 = .ok (.iload_n 2, 1) := by decide +kernel
theorem dX3_isAt_27 : decode cX3_isAt 27 = .ok (.if_icmp .ne 7, 3) := by decide +kernel
theorem dX3_isAt_30 : decode cX3_isAt 30 = .ok (.iconst 1, 1) := by decide +kernel
theorem dX3_isAt_31 : decode cX3_isAt 31 = .ok (.goto 4, 3) := by decide +kernel
theorem dX3_isAt_34 : decode cX3_isAt 34 = .ok (.iconst 0, 1) := by decide +kernel
theorem dX3_isAt_35 : decode cX3_isAt 35 = .ok (.ireturn, 1) := by decide +kernel
theorem dX3_isNextDigit_0 : decode cX3_isNextDigit 0 = .ok (.aload_n 0, 1) := by decide +kernel
theorem dX3_isNextDigit_1 : decode cX3_isNextDigit 1 = .ok (.getfield 38, 3) := by decide +kernel
theorem dX3_isNextDigit_4 : decode cX3_isNextDigit 4 = .ok (.iconst 0, 1) := by decide +kernel
theorem dX3_isNextDigit_5 : decode cX3_isNextDigit 5 = .ok (.aload_n 0, 1) := by decide +kernel
theorem dX3_isNextDigit_6 : decode cX3_isNextDigit 6 = .ok (.getfield 30, 3) := by decide +kernel
theorem dX3_isNextDigit_9 : decode cX3_isNextDigit 9 = .ok (.getfield 48, 3) := by decide +kernel
theorem dX3_isNextDigit_12 : decode cX3_isNextDigit 12 = .ok (.iconst 1, 1) := by decide +kernel
theorem dX3_isNextDigit_13 : decode cX3_isNextDigit 13 = .ok (.isub, 1) := by decide +kernel
theorem dX3_isNextDigit_14 : decode cX3_isNextDigit 14 = .ok (.invokestatic 113, 3) := by decide +kernel
theorem dX3_isNextDigit_17 : decode cX3_isNextDigit 17 = .ok (.ifCond .eq 29, 3) := by decide +kernel
theorem dX3_isNextDigit_20 : decode cX3_isNextDigit 20 = .ok (.aload_n 0, 1) := by decide +kernel
theorem dX3_isNextDigit_21 : decode cX3_isNextDigit 21 = .ok (.getfield 30, 3) := by decide +kernel
theorem dX3_isNextDigit_24 : decode cX3_isNextDigit 24 = .ok (.getfield 109, 3) := by decide +kernel
theorem dX3_isNextDigit_27 : decode cX3_isNextDigit 27 = .ok (.aload_n 0, 1) := by decide +kernel
theorem dX3_isNextDigit_28 : decode cX3_isNextDigit 28 = .ok (.getfield 38, 3) := by decide +kernel
theorem dX3_isNextDigit_31 : decode cX3_isNextDigit 31 = .ok (.caload, 1) := by decide +kernel
theorem dX3_isNextDigit_32 : decode cX3_isNextDigit 32 = .ok (.bipush 48, 2) := by decide +kernel
theorem dX3_isNextDigit_34 : decode cX3_isNextDigit 34 = .ok (.bipush 57, 2) := by decide +kernel
theorem dX3_isNextDigit_36 : decode cX3_isNextDigit 36 = .ok (.invokestatic 113, 3) := by decide +kernel
theorem dX3_isNextDigit_39 : decode cX3_isNextDigit 39 = .ok (.ifCond .eq 7, 3) := by decide +kernel
theorem dX3_isNextDigit_42 : decode cX3_isNextDigit 42 = .ok (.iconst 1, 1) := by decide +kernel
theorem dX3_isNextDigit_43 : decode cX3_isNextDigit 43 = .ok (.goto 4, 3) := by decide +kernel
theorem dX3_isNextDigit_46 : decode cX3_isNextDigit 46 = .ok (.iconst 0, 1) := by decide +kernel
theorem dX3_isNextDigit_47 : decode cX3_isNextDigit 47 = .ok (.ireturn, 1) := by decide +kernel
theorem dX4_init_0 : decode cX4_init 0 = .ok (.aload_n 0, 1) := by decide +kernel
theorem dX4_init_1 : decode cX4_init 1 = .ok (.invokespecial 1, 3) := by decide +kernel
theorem dX4_init_4 : decode cX4_init 4 = .ok (.aload_n 0, 1) := by decide +kernel
theorem dX4_init_5 : decode cX4_init 5 = .ok (.new 7, 3) := by decide +kernel
theorem dX4_init_8 : decode cX4_init 8 = .ok (.dup, 1) := by decide +kernel
theorem dX4_init_9 : decode cX4_init 9 = .ok (.invokespecial 9, 3) := by decide +kernel
theorem dX4_init_12 : decode cX4_init 12 = .ok (.putfield 10, 3) := by decide +kernel
theorem dX4_init_15 : decode cX4_init 15 = .ok (.aload_n 0, 1) := by decide +kernel
theorem dX4_init_16 : decode cX4_init 16 = .ok (.new 16, 3) := by decide +kernel
theorem dX4_init_19 : decode cX4_init 19 = .ok (.dup, 1) := by decide +kernel
theorem dX4_init_20 : decode cX4_init 20 = .ok (.invokespecial 18, 3) := by decide +kernel
theorem dX4_init_23 : decode cX4_init 23 = .ok (.putfield 19, 3) := by decide +kernel
theorem dX4_init_26 : decode cX4_init 26 = .ok (.aload_n 0, 1) := by decide +kernel
theorem dX4_init_27 : decode cX4_init 27 = .ok (.new 23, 3) := by decide +kernel
theorem dX4_init_30 : decode cX4_init 30 = .ok (.dup, 1) := by decide +kernel
theorem dX4_init_31 : decode cX4_init 31 = .ok (.invokespecial 25, 3) := by decide +kernel
theorem dX4_init_34 : decode cX4_init 34 = .ok (.putfield 26, 3) := by decide +kernel
theorem dX4_init_37 : decode cX4_init 37 = .ok (.return_, 1) := by decide +kernel
theorem dX4_clearAll_0 : decode cX4_clearAll 0 = .ok (.aload_n 0, 1) := by decide +kernel
theorem dX4_clearAll_1 : decode cX4_clearAll 1 = .ok (.getfield 10, 3) := by decide +kernel
theorem dX4_clearAll_4 : decode cX4_clearAll 4 = .ok (.iconst 0, 1) := by decide +kernel
theorem dX4_clearAll_5 : decode cX4_clearAll 5 = .ok (.putfield 30, 3) := by decide +kernel
theorem dX4_clearAll_8 : decode cX4_clearAll 8 = .ok (.aload_n 0, 1) := by decide +kernel
theorem dX4_clearAll_9 : decode cX4_clearAll 9 = .ok (.getfield 19, 3) := by decide +kernel
theorem dX4_clearAll_12 : decode cX4_clearAll 12 = .ok (.invokevirtual 34, 3) := by decide +kernel
theorem dX4_clearAll_15 : decode cX4_clearAll 15 = .ok (.aload_n 0, 1) := by decide +kernel
theorem dX4_clearAll_16 : decode cX4_clearAll 16 = .ok (.getfield 26, 3) := by decide +kernel
theorem dX4_clearAll_19 : decode cX4_clearAll 19 = .ok (.invokevirtual 37, 3) := by decide +kernel
theorem dX4_clearAll_22 : decode cX4_clearAll 22 = .ok (.return_, 1) := by decide +kernel
theorem dX4_copyFrom_0 : decode cX4_copyFrom 0 = .ok (.aload_n 0, 1) := by decide +kernel
theorem dX4_copyFrom_1 : decode cX4_copyFrom 1 = .ok (.getfield 10, 3) := by decide +kernel
theorem dX4_copyFrom_4 : decode cX4_copyFrom 4 = .ok (.aload_n 1, 1) := by decide +kernel
theorem dX4_copyFrom_5 : decode cX4_copyFrom 5 = .ok (.getfield 10, 3) := by decide +kernel
theorem dX4_copyFrom_8 : decode cX4_copyFrom 8 = .ok (.invokevirtual 40, 3) := by decide +kernel
theorem dX4_copyFrom_11 : decode cX4_copyFrom 11 = .ok (.aload_n 0, 1) := by decide +kernel
theorem dX4_copyFrom_12 : decode cX4_copyFrom 12 = .ok (.getfield 19, 3) := by decide +kernel
theorem dX4_copyFrom_15 : decode cX4_copyFrom 15 = .ok (.aload_n 1, 1) := by decide +kernel
theorem dX4_copyFrom_16 : decode cX4_copyFrom 16 = .ok (.getfield 19, 3) := by decide +kernel
theorem dX4_copyFrom_19 : decode cX4_copyFrom 19 = .ok (.invokevirtual 44, 3) := by decide +kernel
theorem dX4_copyFrom_22 : decode cX4_copyFrom 22 = .ok (.aload_n 0, 1) := by decide +kernel
theorem dX4_copyFrom_23 : decode cX4_copyFrom 23 = .ok (.getfield 26, 3) := by decide +kernel
theorem dX4_copyFrom_26 : decode cX4_copyFrom 26 = .ok (.aload_n 1, 1) := by decide +kernel
theorem dX4_copyFrom_27 : decode cX4_copyFrom 27 = .ok (.getfield 26, 3) := by decide +kernel
theorem dX4_copyFrom_30 : decode cX4_copyFrom 30 = .ok (.invokevirtual 48, 3) := by decide +kernel
theorem dX4_copyFrom_33 : decode cX4_copyFrom 33 = .ok (.return_, 1) := by decide +kernel
theorem dX5_init_0 : decode cX5_init 0 = .ok (.aload_n 0, 1) := by decide +kernel
theorem dX5_init_1 : decode cX5_init 1 = .ok (.invokespecial 3, 3) := by decide +kernel
theorem dX5_init_4 : decode cX5_init 4 = .ok (.aload_n 0, 1) := by decide +kernel
theorem dX5_init_5 : decode cX5_init 5 = .ok (.iconst 4, 1) := by decide +kernel
theorem dX5_init_6 : decode cX5_init 6 = .ok (.anewarray 9, 3) := by decide +kernel
theorem dX5_init_9 : decode cX5_init 9 = .ok (.putfield 11, 3) := by decide +kernel
theorem dX5_init_12 : decode cX5_init 12 = .ok (.aload_n 0, 1) := by decide +kernel
theorem dX5_init_13 : decode cX5_init 13 = .ok (.bipush 10, 2) := by decide +kernel
theorem dX5_init_15 : decode cX5_init 15 = .ok (.newarray .int, 2) := by decide +kernel
theorem dX5_init_17 : decode cX5_init 17 = .ok (.putfield 17, 3) := by decide +kernel
theorem dX5_init_20 : decode cX5_init 20 = .ok (.aload_n 0, 1) := by decide +kernel
theorem dX5_init_21 : decode cX5_init 21 = .ok (.bipush 10, 2) := by decide +kernel
theorem dX5_init_23 : decode cX5_init 23 = .ok (.newarray .int, 2) := by decide +kernel
theorem dX5_init_25 : decode cX5_init 25 = .ok (.putfield 21, 3) := by decide +kernel
theorem dX5_init_28 : decode cX5_init 28 = .ok (.aload_n 0, 1) := by decide +kernel
theorem dX5_init_29 : decode cX5_init 29 = .ok (.bipush 10, 2) := by decide +kernel
theorem dX5_init_31 : decode cX5_init 31 = .ok (.newarray .int, 2) := by decide +kernel
theorem dX5_init_33 : decode cX5_init 33 = .ok (.putfield 24, 3) := by decide +kernel
theorem dX5_init_36 : decode cX5_init 36 = .ok (.aload_n 0, 1) := by decide +kernel
theorem dX5_init_37 : decode cX5_init 37 = .ok (.sipush 1999, 3) := by decide +kernel
theorem dX5_init_40 : decode cX5_init 40 = .ok (.newarray .boolean, 2) := by decide +kernel
theorem dX5_init_42 : decode cX5_init 42 = .ok (.putfield 27, 3) := by decide +kernel
theorem dX5_init_45 : decode cX5_init 45 = .ok (.aload_n 0, 1) := by decide +kernel
theorem dX5_init_46 : decode cX5_init 46 = .ok (.aload_n 1, 1) := by decide +kernel
theorem dX5_init_47 : decode cX5_init 47 = .ok (.getfield 31, 3) := by decide +kernel
theorem dX5_init_50 : decode cX5_init 50 = .ok (.putfield 37, 3) := by decide +kernel
theorem dX5_init_53 : decode cX5_init 53 = .ok (.aload_n 0, 1) := by decide +kernel
theorem dX5_init_54 : decode cX5_init 54 = .ok (.aload_n 1, 1) := by decide +kernel
theorem dX5_init_55 : decode cX5_init 55 = .ok (.getfield 38, 3) := by decide +kernel
theorem dX5_init_58 : decode cX5_init 58 = .ok (.putfield 42, 3) := by decide +kernel
theorem dX5_init_61 : decode cX5_init 61 = .ok (.iconst 0, 1) := by decide +kernel
theorem dX5_init_62 : decode cX5_init 62 = .ok (.istore_n 2, 1) := by decide +kernel
theorem dX5_init_63 : decode cX5_init 63 = .ok (.iload_n 2, 1) := by decide +kernel
theorem dX5_init_64 : decode cX5_init 64 = .ok (.iconst 4, 1) := by decide +kernel
theorem dX5_init_65 : decode cX5_init 65 = .ok (.if_icmp .ge 22, 3) := by decide +kernel
theorem dX5_init_68 : decode cX5_init 68 = .ok (.aload_n 0, 1) := by decide +kernel
theorem dX5_init_69 : decode cX5_init 69 = .ok (.getfield 11, 3) := by decide +kernel
theorem dX5_init_72 : decode cX5_init 72 = .ok (.iload_n 2, 1) := by decide +kernel
theorem dX5_init_73 : decode cX5_init 73 = .ok (.new 9, 3) := by decide +kernel
theorem dX5_init_76 : decode cX5_init 76 = .ok (.dup, 1) := by decide +kernel
theorem dX5_init_77 : decode cX5_init 77 = .ok (.invokespecial 43, 3) := by decide +kernel
theorem dX5_init_80 : decode cX5_init 80 = .ok (.aastore, 1) := by decide +kernel
theorem dX5_init_81 : decode cX5_init 81 = .ok (.iinc 2 1, 3) := by decide +kernel
theorem dX5_init_84 : decode cX5_init 84 = .ok (.goto (-21), 3) := by decide +kernel
theorem dX5_init_87 : decode cX5_init 87 = .ok (.return_, 1) := by decide +kernel
theorem dX5_prepare_0 : decode cX5_prepare 0 = .ok (.aload_n 0, 1) := by decide +kernel
theorem dX5_prepare_1 : decode cX5_prepare 1 = .ok (.iconst 0, 1) := by decide +kernel
theorem dX5_prepare_2 : decode cX5_prepare 2 = .ok (.putfield 44, 3) := by decide +kernel
theorem dX5_prepare_5 : decode cX5_prepare 5 = .ok (.aload_n 0, 1) := by decide +kernel
theorem dX5_prepare_6 : decode cX5_prepare 6 = .ok (.iconst 0, 1) := by decide +kernel
theorem dX5_prepare_7 : decode cX5_prepare 7 = .ok (.putfield 48, 3) := by decide +kernel
theorem dX5_prepare_10 : decode cX5_prepare 10 = .ok (.aload_n 0, 1) := by decide +kernel
theorem dX5_prepare_11 : decode cX5_prepare 11 = .ok (.iconst (-1), 1) := by decide +kernel
theorem dX5_prepare_12 : decode cX5_prepare 12 = .ok (.putfield 51, 3) := by decide +kernel
theorem dX5_prepare_15 : decode cX5_prepare 15 = .ok (.iconst 0, 1) := by decide +kernel
theorem dX5_prepare_16 : decode cX5_prepare 16 = .ok (.istore_n 3, 1) := by decide +kernel
theorem dX5_prepare_17 : decode cX5_prepare 17 = .ok (.iload_n 3, 1) := by decide +kernel
theorem dX5_prepare_18 : decode cX5_prepare 18 = .ok (.aload_n 0, 1) := by decide +kernel
theorem dX5_prepare_19 : decode cX5_prepare 19 = .ok (.getfield 42, 3) := by decide +kernel
theorem dX5_prepare_22 : decode cX5_prepare 22 = .ok (.getfield 54, 3) := by decide +kernel
theorem dX5_prepare_25 : decode cX5_prepare 25 = .ok (.if_icmp .ge 115, 3) := by decide +kernel
theorem dX5_prepare_28 : decode cX5_prepare 28 = .ok (.iload_n 2, 1) := by decide +kernel
theorem dX5_prepare_29 : decode cX5_prepare 29 = .ok (.iconst (-1), 1) := by decide +kernel
theorem dX5_prepare_30 : decode cX5_prepare 30 = .ok (.if_icmp .eq 16, 3) := by decide +kernel
theorem dX5_prepare_33 : decode cX5_prepare 33 = .ok (.aload_n 0, 1) := by decide +kernel
theorem dX5_prepare_34 : decode cX5_prepare 34 = .ok (.getfield 42, 3) := by decide +kernel
theorem dX5_prepare_37 : decode cX5_prepare 37 = .ok (.getfield 59, 3) := by decide +kernel
theorem dX5_prepare_40 : decode cX5_prepare 40 = .ok (.iload_n 3, 1) := by decide +kernel
theorem dX5_prepare_41 : decode cX5_prepare 41 = .ok (.iaload, 1) := by decide +kernel
theorem dX5_prepare_42 : decode cX5_prepare 42 = .ok (.iload_n 2, 1) := by decide +kernel
theorem dX5_prepare_43 : decode cX5_prepare 43 = .ok (.if_icmp .ne 7, 3) := by decide +kernel
theorem dX5_prepare_46 : decode cX5_prepare 46 = .ok (.iconst 1, 1) := by decide +kernel
theorem dX5_prepare_47 : decode cX5_prepare 47 = .ok (.goto 4, 3) := by decide +kernel
theorem dX5_prepare_50 : decode cX5_prepare 50 = .ok (.iconst 0, 1) := by decide +kernel
theorem dX5_prepare_51 : decode cX5_prepare 51 = .ok (.istore 4, 2) := by decide +kernel
theorem dX5_prepare_53 : decode cX5_prepare 53 = .ok (.iload 4, 2) := by decide +kernel
theorem dX5_prepare_55 : decode cX5_prepare 55 = .ok (.ifCond .eq 79, 3) := by decide +kernel
theorem dX5_prepare_58 : decode cX5_prepare 58 = .ok (.aload_n 0, 1) := by decide +kernel
theorem dX5_prepare_59 : decode cX5_prepare 59 = .ok (.getfield 42, 3) := by decide +kernel
theorem dX5_prepare_62 : decode cX5_prepare 62 = .ok (.getfield 61, 3) := by decide +kernel
theorem dX5_prepare_65 : decode cX5_prepare 65 = .ok (.iload_n 3, 1) := by decide +kernel
theorem dX5_prepare_66 : decode cX5_prepare 66 = .ok (.iaload, 1) := by decide +kernel
theorem dX5_prepare_67 : decode cX5_prepare 67 = .ok (.iload_n 1, 1) := by decide +kernel
theorem dX5_prepare_68 : decode cX5_prepare 68 = .ok (.if_icmp .ge 66, 3) := by decide +kernel
theorem dX5_prepare_71 : decode cX5_prepare 71 = .ok (.aload_n 0, 1) := by decide +kernel
theorem dX5_prepare_72 : decode cX5_prepare 72 = .ok (.dup, 1) := by decide +kernel
theorem dX5_prepare_73 : decode cX5_prepare 73 = .ok (.getfield 44, 3) := by decide +kernel
theorem dX5_prepare_76 : decode cX5_prepare 76 = .ok (.iconst 1, 1) := by decide +kernel
theorem dX5_prepare_77 : decode cX5_prepare 77 = .ok (.iload_n 3, 1) := by decide +kernel
theorem dX5_prepare_78 : decode cX5_prepare 78 = .ok (.ishl, 1) := by decide +kernel
theorem dX5_prepare_79 : decode cX5_prepare 79 = .ok (.ior, 1) := by decide +kernel
theorem dX5_prepare_80 : decode cX5_prepare 80 = .ok (.putfield 44, 3) := by decide +kernel
theorem dX5_prepare_83 : decode cX5_prepare 83 = .ok (.aload_n 0, 1) := by decide +kernel
theorem dX5_prepare_84 : decode cX5_prepare 84 = .ok (.getfield 42, 3) := by decide +kernel
theorem dX5_prepare_87 : decode cX5_prepare 87 = .ok (.iload_n 3, 1) := by decide +kernel
theorem dX5_prepare_88 : decode cX5_prepare 88 = .ok (.invokevirtual 64, 3) := by decide +kernel
theorem dX5_prepare_91 : decode cX5_prepare 91 = .ok (.ifCond .ne 43, 3) := by decide +kernel
theorem dX5_prepare_94 : decode cX5_prepare 94 = .ok (.aload_n 0, 1) := by decide +kernel
theorem dX5_prepare_95 : decode cX5_prepare 95 = .ok (.getfield 42, 3) := by decide +kernel
theorem dX5_prepare_98 : decode cX5_prepare 98 = .ok (.getfield 68, 3) := by decide +kernel
theorem dX5_prepare_101 : decode cX5_prepare 101 = .ok (.iload_n 3, 1) := by decide +kernel
theorem dX5_prepare_102 : decode cX5_prepare 102 = .ok (.iaload, 1) := by decide +kernel
theorem dX5_prepare_103 : decode cX5_prepare 103 = .ok (.iload_n 1, 1) := by decide +kernel
theorem dX5_prepare_104 : decode cX5_prepare 104 = .ok (.if_icmp .ge 30, 3) := by decide +kernel
theorem dX5_prepare_107 : decode cX5_prepare 107 = .ok (.aload_n 0, 1) := by decide +kernel
theorem dX5_prepare_108 : decode cX5_prepare 108 = .ok (.dup, 1) := by decide +kernel
theorem dX5_prepare_109 : decode cX5_prepare 109 = .ok (.getfield 48, 3) := by decide +kernel
theorem dX5_prepare_112 : decode cX5_prepare 112 = .ok (.iconst 1, 1) := by decide +kernel
theorem dX5_prepare_113 : decode cX5_prepare 113 = .ok (.iload_n 3, 1) := by decide +kernel
theorem dX5_prepare_114 : decode cX5_prepare 114 = .ok (.ishl, 1) := by decide +kernel
theorem dX5_prepare_115 : decode cX5_prepare 115 = .ok (.ior, 1) := by decide +kernel
theorem dX5_prepare_116 : decode cX5_prepare 116 = .ok (.putfield 48, 3) := by decide +kernel
theorem dX5_prepare_119 : decode cX5_prepare 119 = .ok (.aload_n 0, 1) := by decide +kernel
theorem dX5_prepare_120 : decode cX5_prepare 120 = .ok (.getfield 17, 3) := by decide +kernel
theorem dX5_prepare_123 : decode cX5_prepare 123 = .ok (.iload_n 3, 1) := by decide +kernel
theorem dX5_prepare_124 : decode cX5_prepare 124 = .ok (.aload_n 0, 1) := by decide +kernel
theorem dX5_prepare_125 : decode cX5_prepare 125 = .ok (.getfield 42, 3) := by decide +kernel
theorem dX5_prepare_128 : decode cX5_prepare 128 = .ok (.getfield 71, 3) := by decide +kernel
theorem dX5_prepare_131 : decode cX5_prepare 131 = .ok (.iload_n 3, 1) := by decide +kernel
theorem dX5_prepare_132 : decode cX5_prepare 132 = .ok (.iaload, 1) := by decide +kernel
theorem dX5_prepare_133 : decode cX5_prepare 133 = .ok (.iastore, 1) := by decide +kernel
theorem dX5_prepare_134 : decode cX5_prepare 134 = .ok (.iinc 3 1, 3) := by decide +kernel
theorem dX5_prepare_137 : decode cX5_prepare 137 = .ok (.goto (-120), 3) := by decide +kernel
theorem dX5_prepare_140 : decode cX5_prepare 140 = .ok (.aload_n 0, 1) := by decide +kernel
theorem dX5_prepare_141 : decode cX5_prepare 141 = .ok (.aload_n 0, 1) := by decide +kernel
theorem dX5_prepare_142 : decode cX5_prepare 142 = .ok (.getfield 48, 3) := by decide +kernel
theorem dX5_prepare_145 : decode cX5_prepare 145 = .ok (.putfield 74, 3) := by decide +kernel
theorem dX5_prepare_148 : decode cX5_prepare 148 = .ok (.iconst 0, 1) := by decide +kernel
theorem dX5_prepare_149 : decode cX5_prepare 149 = .ok (.istore_n 3, 1) := by decide +kernel
theorem dX5_prepare_150 : decode cX5_prepare 150 = .ok (.iload_n 3, 1) := by decide +kernel
theorem dX5_prepare_151 : decode cX5_prepare 151 = .ok (.aload_n 0, 1) := by decide +kernel
theorem dX5_prepare_152 : decode cX5_prepare 152 = .ok (.getfield 37, 3) := by decide +kernel
theorem dX5_prepare_155 : decode cX5_prepare 155 = .ok (.getfield 77, 3) := by decide +kernel
theorem dX5_prepare_158 : decode cX5_prepare 158 = .ok (.if_icmp .ge 27, 3) := by decide +kernel
theorem dX5_prepare_161 : decode cX5_prepare 161 = .ok (.aload_n 0, 1) := by decide +kernel
theorem dX5_prepare_162 : decode cX5_prepare 162 = .ok (.getfield 11, 3) := by decide +kernel
theorem dX5_prepare_165 : decode cX5_prepare 165 = .ok (.iload_n 3, 1) := by decide +kernel
theorem dX5_prepare_166 : decode cX5_prepare 166 = .ok (.aaload, 1) := by decide +kernel
theorem dX5_prepare_167 : decode cX5_prepare 167 = .ok (.aload_n 0, 1) := by decide +kernel
theorem dX5_prepare_168 : decode cX5_prepare 168 = .ok (.getfield 37, 3) := by decide +kernel
theorem dX5_prepare_171 : decode cX5_prepare 171 = .ok (.getfield 82, 3) := by decide +kernel
theorem dX5_prepare_174 : decode cX5_prepare 174 = .ok (.iload_n 3, 1) := by decide +kernel
theorem dX5_prepare_175 : decode cX5_prepare 175 = .ok (.iaload, 1) := by decide +kernel
theorem dX5_prepare_176 : decode cX5_prepare 176 = .ok (.invokevirtual 85, 3) := by decide +kernel
theorem dX5_prepare_179 : decode cX5_prepare 179 = .ok (.iinc 3 1, 3) := by decide +kernel
theorem dX5_prepare_182 : decode cX5_prepare 182 = .ok (.goto (-32), 3) := by decide +kernel
theorem dX5_prepare_185 : decode cX5_prepare 185 = .ok (.return_, 1) := by decide +kernel
theorem dX5_keepRealTimeOrder_0 : decode cX5_keepRealTimeOrder 0 = .ok (.iconst 0, 1) := by decide +kernel
theorem dX5_keepRealTimeOrder_1 : decode cX5_keepRealTimeOrder 1 = .ok (.istore_n 1, 1) := by decide +kernel
theorem dX5_keepRealTimeOrder_2 : decode cX5_keepRealTimeOrder 2 = .ok (.iload_n 1, 1) := by decide +kernel
theorem dX5_keepRealTimeOrder_3 : decode cX5_keepRealTimeOrder 3 = .ok (.aload_n 0, 1) := by decide +kernel
theorem dX5_keepRealTimeOrder_4 : decode cX5_keepRealTimeOrder 4 = .ok (.getfield 42, 3) := by decide +kernel
theorem dX5_keepRealTimeOrder_7 : decode cX5_keepRealTimeOrder 7 = .ok (.getfield 54, 3) := by decide +kernel
theorem dX5_keepRealTimeOrder_10 : decode cX5_keepRealTimeOrder 10 = .ok (.if_icmp .ge 58, 3) := by decide +kernel
theorem dX5_keepRealTimeOrder_13 : decode cX5_keepRealTimeOrder 13 = .ok (.aload_n 0, 1) := by decide +kernel
theorem dX5_keepRealTimeOrder_14 : decode cX5_keepRealTimeOrder 14 = .ok (.getfield 21, 3) := by decide +kernel
theorem dX5_keepRealTimeOrder_17 : decode cX5_keepRealTimeOrder 17 = .ok (.iload_n 1, 1) := by decide +kernel
theorem dX5_keepRealTimeOrder_18 : decode cX5_keepRealTimeOrder 18 = .ok (.iconst 0, 1) := by decide +kernel
theorem dX5_keepRealTimeOrder_19 : decode cX5_keepRealTimeOrder 19 = .ok (.iastore, 1) := by decide +kernel
theorem dX5_keepRealTimeOrder_20 : decode cX5_keepRealTimeOrder 20 = .ok (.iconst 0, 1) := by decide +kernel
theorem dX5_keepRealTimeOrder_21 : decode cX5_keepRealTimeOrder 21 = .ok (.istore_n 2, 1) := by decide +kernel
theorem dX5_keepRealTimeOrder_22 : decode cX5_keepRealTimeOrder 22 = .ok (.iload_n 2, 1) := by decide +kernel
theorem dX5_keepRealTimeOrder_23 : decode cX5_keepRealTimeOrder 23 = .ok (.iload_n 1, 1) := by decide +kernel
theorem dX5_keepRealTimeOrder_24 : decode cX5_keepRealTimeOrder 24 = .ok (.if_icmp .ge 38, 3) := by decide +kernel
theorem dX5_keepRealTimeOrder_27 : decode cX5_keepRealTimeOrder 27 = .ok (.aload_n 0, 1) := by decide +kernel
theorem dX5_keepRealTimeOrder_28 : decode cX5_keepRealTimeOrder 28 = .ok (.getfield 42, 3) := by decide +kernel
theorem dX5_keepRealTimeOrder_31 : decode cX5_keepRealTimeOrder 31 = .ok (.iload_n 2, 1) := by decide +kernel
theorem dX5_keepRealTimeOrder_32 : decode cX5_keepRealTimeOrder 32 = .ok (.iload_n 1, 1) := by decide +kernel
theorem dX5_keepRealTimeOrder_33 : decode cX5_keepRealTimeOrder 33 = .ok (.invokevirtual 89, 3) := by decide +kernel
theorem dX5_keepRealTimeOrder_36 : decode cX5_keepRealTimeOrder 36 = .ok (.ifCond .eq 20, 3) := by decide +kernel
theorem dX5_keepRealTimeOrder_39 : decode cX5_keepRealTimeOrder 39 = .ok (.aload_n 0, 1) := by decide +kernel
theorem dX5_keepRealTimeOrder_40 : decode cX5_keepRealTimeOrder 40 = .ok (.getfield 21, 3) := by decide +kernel
theorem dX5_keepRealTimeOrder_43 : decode cX5_keepRealTimeOrder 43 = .ok (.iload_n 1, 1) := by decide +kernel
theorem dX5_keepRealTimeOrder_44 : decode cX5_keepRealTimeOrder 44 = .ok (.dup2, 1) := by decide +kernel
theorem dX5_keepRealTimeOrder_45 : decode cX5_keepRealTimeOrder 45 = .ok (.iaload, 1) := by decide +kernel
theorem dX5_keepRealTimeOrder_46 : decode cX5_keepRealTimeOrder 46 = .ok (.aload_n 0, 1) := by decide +kernel
theorem dX5_keepRealTimeOrder_47 : decode cX5_keepRealTimeOrder 47 = .ok (.getfield 44, 3) := by decide +kernel
theorem dX5_keepRealTimeOrder_50 : decode cX5_keepRealTimeOrder 50 = .ok (.iconst 1, 1) := by decide +kernel
theorem dX5_keepRealTimeOrder_51 : decode cX5_keepRealTimeOrder 51 = .ok (.iload_n 2, 1) := by decide +kernel
theorem dX5_keepRealTimeOrder_52 : decode cX5_keepRealTimeOrder 52 = .ok (.ishl, 1) := by decide +kernel
theorem dX5_keepRealTimeOrder_53 : decode cX5_keepRealTimeOrder 53 = .ok (.iand, 1) := by decide +kernel
theorem dX5_keepRealTimeOrder_54 : decode cX5_keepRealTimeOrder 54 = .ok (.ior, 1) := by decide +kernel
theorem dX5_keepRealTimeOrder_55 : decode cX5_keepRealTimeOrder 55 = .ok (.iastore, 1) := by decide +kernel
theorem dX5_keepRealTimeOrder_56 : decode cX5_keepRealTimeOrder 56 = .ok (.iinc 2 1, 3) := by decide +kernel
theorem dX5_keepRealTimeOrder_59 : decode cX5_keepRealTimeOrder 59 = .ok (.goto (-37), 3) := by decide +kernel
theorem dX5_keepRealTimeOrder_62 : decode cX5_keepRealTimeOrder 62 = .ok (.iinc 1 1, 3) := by decide +kernel
theorem dX5_keepRealTimeOrder_65 : decode cX5_keepRealTimeOrder 65 = .ok (.goto (-63), 3) := by decide +kernel
theorem dX5_keepRealTimeOrder_68 : decode cX5_keepRealTimeOrder 68 = .ok (.return_, 1) := by decide +kernel
theorem dX5_keepThreadOrder_0 : decode cX5_keepThreadOrder 0 = .ok (.iconst 0, 1) := by decide +kernel
theorem dX5_keepThreadOrder_1 : decode cX5_keepThreadOrder 1 = .ok (.istore_n 1, 1) := by decide +kernel
theorem dX5_keepThreadOrder_2 : decode cX5_keepThreadOrder 2 = .ok (.iload_n 1, 1) := by decide +kernel
theorem dX5_keepThreadOrder_3 : decode cX5_keepThreadOrder 3 = .ok (.aload_n 0, 1) := by decide +kernel
theorem dX5_keepThreadOrder_4 : decode cX5_keepThreadOrder 4 = .ok (.getfield 42, 3) := by decide +kernel
theorem dX5_keepThreadOrder_7 : decode cX5_keepThreadOrder 7 = .ok (.getfield 54, 3) := by decide +kernel
theorem dX5_keepThreadOrder_10 : decode cX5_keepThreadOrder 10 = .ok (.if_icmp .ge 67, 3) := by decide +kernel
theorem dX5_keepThreadOrder_13 : decode cX5_keepThreadOrder 13 = .ok (.aload_n 0, 1) := by decide +kernel
theorem dX5_keepThreadOrder_14 : decode cX5_keepThreadOrder 14 = .ok (.getfield 21, 3) := by decide +kernel
theorem dX5_keepThreadOrder_17 : decode cX5_keepThreadOrder 17 = .ok (.iload_n 1, 1) := by decide +kernel
theorem dX5_keepThreadOrder_18 : decode cX5_keepThreadOrder 18 = .ok (.iconst 0, 1) := by decide +kernel
theorem dX5_keepThreadOrder_19 : decode cX5_keepThreadOrder 19 = .ok (.iastore, 1) := by decide +kernel
theorem dX5_keepThreadOrder_20 : decode cX5_keepThreadOrder 20 = .ok (.iconst 0, 1) := by decide +kernel
theorem dX5_keepThreadOrder_21 : decode cX5_keepThreadOrder 21 = .ok (.istore_n 2, 1) := by decide +kernel
theorem dX5_keepThreadOrder_22 : decode cX5_keepThreadOrder 22 = .ok (.iload_n 2, 1) := by decide +kernel
theorem dX5_keepThreadOrder_23 : decode cX5_keepThreadOrder 23 = .ok (.iload_n 1, 1) := by decide +kernel
theorem dX5_keepThreadOrder_24 : decode cX5_keepThreadOrder 24 = .ok (.if_icmp .ge 47, 3) := by decide +kernel
theorem dX5_keepThreadOrder_27 : decode cX5_keepThreadOrder 27 = .ok (.aload_n 0, 1) := by decide +kernel
theorem dX5_keepThreadOrder_28 : decode cX5_keepThreadOrder 28 = .ok (.getfield 42, 3) := by decide +kernel
theorem dX5_keepThreadOrder_31 : decode cX5_keepThreadOrder 31 = .ok (.getfield 93, 3) := by decide +kernel
theorem dX5_keepThreadOrder_34 : decode cX5_keepThreadOrder 34 = .ok (.iload_n 2, 1) := by decide +kernel
theorem dX5_keepThreadOrder_35 : decode cX5_keepThreadOrder 35 = .ok (.iaload, 1) := by decide +kernel
theorem dX5_keepThreadOrder_36 : decode cX5_keepThreadOrder 36 = .ok (.aload_n 0, 1) := by decide +kernel
theorem dX5_keepThreadOrder_37 : decode cX5_keepThreadOrder 37 = .ok (.getfield 42, 3) := by decide +kernel
theorem dX5_keepThreadOrder_40 : decode cX5_keepThreadOrder 40 = .ok (.getfield 93, 3) := by decide +kernel
theorem dX5_keepThreadOrder_43 : decode cX5_keepThreadOrder 43 = .ok (.iload_n 1, 1) := by decide +kernel
theorem dX5_keepThreadOrder_44 : decode cX5_keepThreadOrder 44 = .ok (.iaload, 1) := by decide +kernel
theorem dX5_keepThreadOrder_45 : decode cX5_keepThreadOrder 45 = .ok (.if_icmp .ne 20, 3) := by decide +kernel
theorem dX5_keepThreadOrder_48 : decode cX5_keepThreadOrder 48 = .ok (.aload_n 0, 1) := by decide +kernel
theorem dX5_keepThreadOrder_49 : decode cX5_keepThreadOrder 49 = .ok (.getfield 21, 3) := by decide +kernel
theorem dX5_keepThreadOrder_52 : decode cX5_keepThreadOrder 52 = .ok (.iload_n 1, 1) := by decide +kernel
theorem dX5_keepThreadOrder_53 : decode cX5_keepThreadOrder 53 = .ok (.dup2, 1) := by decide +kernel
theorem dX5_keepThreadOrder_54 : decode cX5_keepThreadOrder 54 = .ok (.iaload, 1) := by decide +kernel
theorem dX5_keepThreadOrder_55 : decode cX5_keepThreadOrder 55 = .ok (.aload_n 0, 1) := by decide +kernel
theorem dX5_keepThreadOrder_56 : decode cX5_keepThreadOrder 56 = .ok (.getfield 44, 3) := by decide +kernel
theorem dX5_keepThreadOrder_59 : decode cX5_keepThreadOrder 59 = .ok (.iconst 1, 1) := by decide +kernel
theorem dX5_keepThreadOrder_60 : decode cX5_keepThreadOrder 60 = .ok (.iload_n 2, 1) := by decide +kernel
theorem dX5_keepThreadOrder_61 : decode cX5_keepThreadOrder 61 = .ok (.ishl, 1) := by decide +kernel
theorem dX5_keepThreadOrder_62 : decode cX5_keepThreadOrder 62 = .ok (.iand, 1) := by decide +kernel
theorem dX5_keepThreadOrder_63 : decode cX5_keepThreadOrder 63 = .ok (.ior, 1) := by decide +kernel
theorem dX5_keepThreadOrder_64 : decode cX5_keepThreadOrder 64 = .ok (.iastore, 1) := by decide +kernel
theorem dX5_keepThreadOrder_65 : decode cX5_keepThreadOrder 65 = .ok (.iinc 2 1, 3) := by decide +kernel
theorem dX5_keepThreadOrder_68 : decode cX5_keepThreadOrder 68 = .ok (.goto (-46), 3) := by decide +kernel
theorem dX5_keepThreadOrder_71 : decode cX5_keepThreadOrder 71 = .ok (.iinc 1 1, 3) := by decide +kernel
theorem dX5_keepThreadOrder_74 : decode cX5_keepThreadOrder 74 = .ok (.goto (-72), 3) := by decide +kernel
theorem dX5_keepThreadOrder_77 : decode cX5_keepThreadOrder 77 = .ok (.return_, 1) := by decide +kernel
theorem dX5_requireResult_0 : decode cX5_requireResult 0 = .ok (.aload_n 0, 1) := by decide +kernel
theorem dX5_requireResult_1 : decode cX5_requireResult 1 = .ok (.dup, 1) := by decide +kernel
theorem dX5_requireResult_2 : decode cX5_requireResult 2 = .ok (.getfield 48, 3) := by decide +kernel
theorem dX5_requireResult_5 : decode cX5_requireResult 5 = .ok (.iconst 1, 1) := by decide +kernel
theorem dX5_requireResult_6 : decode cX5_requireResult 6 = .ok (.iload_n 1, 1) := by decide +kernel
theorem dX5_requireResult_7 : decode cX5_requireResult 7 = .ok (.ishl, 1) := by decide +kernel
theorem dX5_requireResult_8 : decode cX5_requireResult 8 = .ok (.ior, 1) := by decide +kernel
theorem dX5_requireResult_9 : decode cX5_requireResult 9 = .ok (.putfield 48, 3) := by decide +kernel
theorem dX5_requireResult_12 : decode cX5_requireResult 12 = .ok (.aload_n 0, 1) := by decide +kernel
theorem dX5_requireResult_13 : decode cX5_requireResult 13 = .ok (.dup, 1) := by decide +kernel
theorem dX5_requireResult_14 : decode cX5_requireResult 14 = .ok (.getfield 74, 3) := by decide +kernel
theorem dX5_requireResult_17 : decode cX5_requireResult 17 = .ok (.iconst 1, 1) := by decide +kernel
theorem dX5_requireResult_18 : decode cX5_requireResult 18 = .ok (.iload_n 1, 1) := by decide +kernel
theorem dX5_requireResult_19 : decode cX5_requireResult 19 = .ok (.ishl, 1) := by decide +kernel
theorem dX5_requireResult_20 : decode cX5_requireResult 20 = .ok (.ior, 1) := by decide +kernel
theorem dX5_requireResult_21 : decode cX5_requireResult 21 = .ok (.putfield 74, 3) := by decide +kernel
theorem dX5_requireResult_24 : decode cX5_requireResult 24 = .ok (.aload_n 0, 1) := by decide +kernel
theorem dX5_requireResult_25 : decode cX5_requireResult 25 = .ok (.getfield 17, 3) := by decide +kernel
theorem dX5_requireResult_28 : decode cX5_requireResult 28 = .ok (.iload_n 1, 1) := by decide +kernel
theorem dX5_requireResult_29 : decode cX5_requireResult 29 = .ok (.iload_n 2, 1) := by decide +kernel
theorem dX5_requireResult_30 : decode cX5_requireResult 30 = .ok (.iastore, 1) := by decide +kernel
theorem dX5_requireResult_31 : decode cX5_requireResult 31 = .ok (.return_, 1) := by decide +kernel
theorem dX5_findsOne_0 : decode cX5_findsOne 0 = .ok (.aload_n 0, 1) := by decide +kernel
theorem dX5_findsOne_1 : decode cX5_findsOne 1 = .ok (.iconst 1, 1) := by decide +kernel
theorem dX5_findsOne_2 : decode cX5_findsOne 2 = .ok (.putfield 96, 3) := by decide +kernel
theorem dX5_findsOne_5 : decode cX5_findsOne 5 = .ok (.aload_n 0, 1) := by decide +kernel
theorem dX5_findsOne_6 : decode cX5_findsOne 6 = .ok (.iconst 0, 1) := by decide +kernel
theorem dX5_findsOne_7 : decode cX5_findsOne 7 = .ok (.putfield 100, 3) := by decide +kernel
theorem dX5_findsOne_10 : decode cX5_findsOne 10 = .ok (.aload_n 0, 1) := by decide +kernel
theorem dX5_findsOne_11 : decode cX5_findsOne 11 = .ok (.iconst 0, 1) := by decide +kernel
theorem dX5_findsOne_12 : decode cX5_findsOne 12 = .ok (.iconst 0, 1) := by decide +kernel
theorem dX5_findsOne_13 : decode cX5_findsOne 13 = .ok (.invokestatic 103, 3) := by decide +kernel
theorem dX5_findsOne_16 : decode cX5_findsOne 16 = .ok (.aload_n 0, 1) := by decide +kernel
theorem dX5_findsOne_17 : decode cX5_findsOne 17 = .ok (.getfield 100, 3) := by decide +kernel
theorem dX5_findsOne_20 : decode cX5_findsOne 20 = .ok (.ifCond .le 7, 3) := by decide +kernel
theorem dX5_findsOne_23 : decode cX5_findsOne 23 = .ok (.iconst 1, 1) := by decide +kernel
theorem dX5_findsOne_24 : decode cX5_findsOne 24 = .ok (.goto 4, 3) := by decide +kernel
theorem dX5_findsOne_27 : decode cX5_findsOne 27 = .ok (.iconst 0, 1) := by decide +kernel
theorem dX5_findsOne_28 : decode cX5_findsOne 28 = .ok (.ireturn, 1) := by decide +kernel
theorem dX5_countAll_0 : decode cX5_countAll 0 = .ok (.aload_n 0, 1) := by decide +kernel
theorem dX5_countAll_1 : decode cX5_countAll 1 = .ok (.iconst 0, 1) := by decide +kernel
theorem dX5_countAll_2 : decode cX5_countAll 2 = .ok (.putfield 96, 3) := by decide +kernel
theorem dX5_countAll_5 : decode cX5_countAll 5 = .ok (.aload_n 0, 1) := by decide +kernel
theorem dX5_countAll_6 : decode cX5_countAll 6 = .ok (.iconst 0, 1) := by decide +kernel
theorem dX5_countAll_7 : decode cX5_countAll 7 = .ok (.putfield 100, 3) := by decide +kernel
theorem dX5_countAll_10 : decode cX5_countAll 10 = .ok (.aload_n 0, 1) := by decide +kernel
theorem dX5_countAll_11 : decode cX5_countAll 11 = .ok (.iconst 0, 1) := by decide +kernel
theorem dX5_countAll_12 : decode cX5_countAll 12 = .ok (.iconst 0, 1) := by decide +kernel
theorem dX5_countAll_13 : decode cX5_countAll 13 = .ok (.invokestatic 103, 3) := by decide +kernel
theorem dX5_countAll_16 : decode cX5_countAll 16 = .ok (.aload_n 0, 1) := by decide +kernel
theorem dX5_countAll_17 : decode cX5_countAll 17 = .ok (.getfield 100, 3) := by decide +kernel
theorem dX5_countAll_20 : decode cX5_countAll 20 = .ok (.ireturn, 1) := by decide +kernel
theorem dX5_countResults_0 : decode cX5_countResults 0 = .ok (.iconst 0, 1) := by decide +kernel
theorem dX5_countResults_1 : decode cX5_countResults 1 = .ok (.istore 4, 2) := by decide +kernel
theorem dX5_countResults_3 : decode cX5_countResults 3 = .ok (.iload 4, 2) := by decide +kernel
theorem dX5_countResults_5 : decode cX5_countResults 5 = .ok (.aload_n 0, 1) := by decide +kernel
theorem dX5_countResults_6 : decode cX5_countResults 6 = .ok (.getfield 27, 3) := by decide +kernel
theorem dX5_countResults_9 : decode cX5_countResults 9 = .ok (.arraylength, 1) := by decide +kernel
theorem dX5_countResults_10 : decode cX5_countResults 10 = .ok (.if_icmp .ge 17, 3) := by decide +kernel
theorem dX5_countResults_13 : decode cX5_countResults 13 = .ok (.aload_n 0, 1) := by decide +kernel
theorem dX5_countResults_14 : decode cX5_countResults 14 = .ok (.getfield 27, 3) := by decide +kernel
theorem dX5_countResults_17 : decode cX5_countResults 17 = .ok (.iload 4, 2) := by decide +kernel
theorem dX5_countResults_19 : decode cX5_countResults 19 = .ok (.iconst 0, 1) := by decide +kernel
theorem dX5_countResults_20 : decode cX5_countResults 20 = .ok (.bastore, 1) := by decide +kernel
theorem dX5_countResults_21 : decode cX5_countResults 21 = .ok (.iinc 4 1, 3) := by decide +kernel
theorem dX5_countResults_24 : decode cX5_countResults 24 = .ok (.goto (-21), 3) := by decide +kernel
theorem dX5_countResults_27 : decode cX5_countResults 27 = .ok (.aload_n 0, 1) := by decide +kernel
theorem dX5_countResults_28 : decode cX5_countResults 28 = .ok (.dup, 1) := by decide +kernel
theorem dX5_countResults_29 : decode cX5_countResults 29 = .ok (.getfield 48, 3) := by decide +kernel
theorem dX5_countResults_32 : decode cX5_countResults 32 = .ok (.iconst 1, 1) := by decide +kernel
theorem dX5_countResults_33 : decode cX5_countResults 33 = .ok (.iload_n 1, 1) := by decide +kernel
theorem dX5_countResults_34 : decode cX5_countResults 34 = .ok (.ishl, 1) := by decide +kernel
theorem dX5_countResults_35 : decode cX5_countResults 35 = .ok (.ior, 1) := by decide +kernel
theorem dX5_countResults_36 : decode cX5_countResults 36 = .ok (.putfield 48, 3) := by decide +kernel
theorem dX5_countResults_39 : decode cX5_countResults 39 = .ok (.aload_n 0, 1) := by decide +kernel
theorem dX5_countResults_40 : decode cX5_countResults 40 = .ok (.iload_n 1, 1) := by decide +kernel
theorem dX5_countResults_41 : decode cX5_countResults 41 = .ok (.putfield 51, 3) := by decide +kernel
theorem dX5_countResults_44 : decode cX5_countResults 44 = .ok (.aload_n 0, 1) := by decide +kernel
theorem dX5_countResults_45 : decode cX5_countResults 45 = .ok (.invokevirtual 107, 3) := by decide +kernel
theorem dX5_countResults_48 : decode cX5_countResults 48 = .ok (.pop, 1) := by decide +kernel
theorem dX5_countResults_49 : decode cX5_countResults 49 = .ok (.iconst 0, 1) := by decide +kernel
theorem dX5_countResults_50 : decode cX5_countResults 50 = .ok (.istore 4, 2) := by decide +kernel
theorem dX5_countResults_52 : decode cX5_countResults 52 = .ok (.iload_n 2, 1) := by decide +kernel
theorem dX5_countResults_53 : decode cX5_countResults 53 = .ok (.istore 5, 2) := by decide +kernel
theorem dX5_countResults_55 : decode cX5_countResults 55 = .ok (.iload 5, 2) := by decide +kernel
theorem dX5_countResults_57 : decode cX5_countResults 57 = .ok (.iload_n 3, 1) := by decide +kernel
theorem dX5_countResults_58 : decode cX5_countResults 58 = .ok (.if_icmp .gt 26, 3) := by decide +kernel
theorem dX5_countResults_61 : decode cX5_countResults 61 = .ok (.aload_n 0, 1) := by decide +kernel
theorem dX5_countResults_62 : decode cX5_countResults 62 = .ok (.getfield 27, 3) := by decide +kernel
theorem dX5_countResults_65 : decode cX5_countResults 65 = .ok (.iload 5, 2) := by decide +kernel
theorem dX5_countResults_67 : decode cX5_countResults 67 = .ok (.sipush 999, 3) := by decide +kernel
theorem dX5_countResults_70 : decode cX5_countResults 70 = .ok (.iadd, 1) := by decide +kernel
theorem dX5_countResults_71 : decode cX5_countResults 71 = .ok (.baload, 1) := by decide +kernel
theorem dX5_countResults_72 : decode cX5_countResults 72 = .ok (.ifCond .eq 6, 3) := by decide +kernel
theorem dX5_countResults_75 : decode cX5_countResults 75 = .ok (.iinc 4 1, 3) := by decide +kernel
theorem dX5_countResults_78 : decode cX5_countResults 78 = .ok (.iinc 5 1, 3) := by decide +kernel
theorem dX5_countResults_81 : decode cX5_countResults 81 = .ok (.goto (-26), 3) := by decide +kernel
theorem dX5_countResults_84 : decode cX5_countResults 84 = .ok (.iload 4, 2) := by decide +kernel
theorem dX5_countResults_86 : decode cX5_countResults 86 = .ok (.ireturn, 1) := by decide +kernel
theorem dX5_coversRequired_0 : decode cX5_coversRequired 0 = .ok (.aload_n 0, 1) := by decide +kernel
theorem dX5_coversRequired_1 : decode cX5_coversRequired 1 = .ok (.getfield 48, 3) := by decide +kernel
theorem dX5_coversRequired_4 : decode cX5_coversRequired 4 = .ok (.istore_n 2, 1) := by decide +kernel
theorem dX5_coversRequired_5 : decode cX5_coversRequired 5 = .ok (.iconst 0, 1) := by decide +kernel
theorem dX5_coversRequired_6 : decode cX5_coversRequired 6 = .ok (.istore_n 3, 1) := by decide +kernel
theorem dX5_coversRequired_7 : decode cX5_coversRequired 7 = .ok (.iload_n 3, 1) := by decide +kernel
theorem dX5_coversRequired_8 : decode cX5_coversRequired 8 = .ok (.aload_n 1, 1) := by decide +kernel
theorem dX5_coversRequired_9 : decode cX5_coversRequired 9 = .ok (.getfield 111, 3) := by decide +kernel
theorem dX5_coversRequired_12 : decode cX5_coversRequired 12 = .ok (.if_icmp .ge 22, 3) := by decide +kernel
theorem dX5_coversRequired_15 : decode cX5_coversRequired 15 = .ok (.iload_n 2, 1) := by decide +kernel
theorem dX5_coversRequired_16 : decode cX5_coversRequired 16 = .ok (.iconst 1, 1) := by decide +kernel
theorem dX5_coversRequired_17 : decode cX5_coversRequired 17 = .ok (.aload_n 1, 1) := by decide +kernel
theorem dX5_coversRequired_18 : decode cX5_coversRequired 18 = .ok (.getfield 116, 3) := by decide +kernel
theorem dX5_coversRequired_21 : decode cX5_coversRequired 21 = .ok (.iload_n 3, 1) := by decide +kernel
theorem dX5_coversRequired_22 : decode cX5_coversRequired 22 = .ok (.iaload, 1) := by decide +kernel
theorem dX5_coversRequired_23 : decode cX5_coversRequired 23 = .ok (.ishl, 1) := by decide +kernel
theorem dX5_coversRequired_24 : decode cX5_coversRequired 24 = .ok (.iconst (-1), 1) := by decide +kernel
theorem dX5_coversRequired_25 : decode cX5_coversRequired 25 = .ok (.ixor, 1) := by decide +kernel
theorem dX5_coversRequired_26 : decode cX5_coversRequired 26 = .ok (.iand, 1) := by decide +kernel
theorem dX5_coversRequired_27 : decode cX5_coversRequired 27 = .ok (.istore_n 2, 1) := by decide +kernel
theorem dX5_coversRequired_28 : decode cX5_coversRequired 28 = .ok (.iinc 3 1, 3) := by decide +kernel
theorem dX5_coversRequired_31 : decode cX5_coversRequired 31 = .ok (.goto (-24), 3) := by decide +kernel
theorem dX5_coversRequired_34 : decode cX5_coversRequired 34 = .ok (.iload_n 2, 1) := by decide +kernel
theorem dX5_coversRequired_35 : decode cX5_coversRequired 35 = .ok (.ifCond .ne 7, 3) := by decide +kernel
theorem dX5_coversRequired_38 : decode cX5_coversRequired 38 = .ok (.iconst 1, 1) := by decide +kernel
theorem dX5_coversRequired_39 : decode cX5_coversRequired 39 = .ok (.goto 4, 3) := by decide +kernel
theorem dX5_coversRequired_42 : decode cX5_coversRequired 42 = .ok (.iconst 0, 1) := by decide +kernel
theorem dX5_coversRequired_43 : decode cX5_coversRequired 43 = .ok (.ireturn, 1) := by decide +kernel
theorem dX5_badPosition_0 : decode cX5_badPosition 0 = .ok (.iconst 0, 1) := by decide +kernel
theorem dX5_badPosition_1 : decode cX5_badPosition 1 = .ok (.istore_n 2, 1) := by decide +kernel
theorem dX5_badPosition_2 : decode cX5_badPosition 2 = .ok (.iconst 0, 1) := by decide +kernel
theorem dX5_badPosition_3 : decode cX5_badPosition 3 = .ok (.istore_n 3, 1) := by decide +kernel
theorem dX5_badPosition_4 : decode cX5_badPosition 4 = .ok (.iload_n 3, 1) := by decide +kernel
theorem dX5_badPosition_5 : decode cX5_badPosition 5 = .ok (.aload_n 1, 1) := by decide +kernel
theorem dX5_badPosition_6 : decode cX5_badPosition 6 = .ok (.getfield 111, 3) := by decide +kernel
theorem dX5_badPosition_9 : decode cX5_badPosition 9 = .ok (.if_icmp .ge 51, 3) := by decide +kernel
theorem dX5_badPosition_12 : decode cX5_badPosition 12 = .ok (.aload_n 1, 1) := by decide +kernel
theorem dX5_badPosition_13 : decode cX5_badPosition 13 = .ok (.getfield 116, 3) := by decide +kernel
theorem dX5_badPosition_16 : decode cX5_badPosition 16 = .ok (.iload_n 3, 1) := by decide +kernel
theorem dX5_badPosition_17 : decode cX5_badPosition 17 = .ok (.iaload, 1) := by decide +kernel
theorem dX5_badPosition_18 : decode cX5_badPosition 18 = .ok (.istore 4, 2) := by decide +kernel
theorem dX5_badPosition_20 : decode cX5_badPosition 20 = .ok (.aload_n 0, 1) := by decide +kernel
theorem dX5_badPosition_21 : decode cX5_badPosition 21 = .ok (.iload 4, 2) := by decide +kernel
theorem dX5_badPosition_23 : decode cX5_badPosition 23 = .ok (.iload_n 2, 1) := by decide +kernel
theorem dX5_badPosition_24 : decode cX5_badPosition 24 = .ok (.invokevirtual 118, 3) := by decide +kernel
theorem dX5_badPosition_27 : decode cX5_badPosition 27 = .ok (.ifCond .eq 18, 3) := by decide +kernel
theorem dX5_badPosition_30 : decode cX5_badPosition 30 = .ok (.aload_n 0, 1) := by decide +kernel
theorem dX5_badPosition_31 : decode cX5_badPosition 31 = .ok (.iload 4, 2) := by decide +kernel
theorem dX5_badPosition_33 : decode cX5_badPosition 33 = .ok (.aload_n 0, 1) := by decide +kernel
theorem dX5_badPosition_34 : decode cX5_badPosition 34 = .ok (.iload 4, 2) := by decide +kernel
theorem dX5_badPosition_36 : decode cX5_badPosition 36 = .ok (.invokevirtual 121, 3) := by decide +kernel
theorem dX5_badPosition_39 : decode cX5_badPosition 39 = .ok (.invokevirtual 125, 3) := by decide +kernel
theorem dX5_badPosition_42 : decode cX5_badPosition 42 = .ok (.ifCond .ne 5, 3) := by decide +kernel
theorem dX5_badPosition_45 : decode cX5_badPosition 45 = .ok (.iload_n 3, 1) := by decide +kernel
theorem dX5_badPosition_46 : decode cX5_badPosition 46 = .ok (.ireturn, 1) := by decide +kernel
theorem dX5_badPosition_47 : decode cX5_badPosition 47 = .ok (.iload_n 2, 1) := by decide +kernel
theorem dX5_badPosition_48 : decode cX5_badPosition 48 = .ok (.iconst 1, 1) := by decide +kernel
theorem dX5_badPosition_49 : decode cX5_badPosition 49 = .ok (.iload 4, 2) := by decide +kernel
theorem dX5_badPosition_51 : decode cX5_badPosition 51 = .ok (.ishl, 1) := by decide +kernel
theorem dX5_badPosition_52 : decode cX5_badPosition 52 = .ok (.ior, 1) := by decide +kernel
theorem dX5_badPosition_53 : decode cX5_badPosition 53 = .ok (.istore_n 2, 1) := by decide +kernel
theorem dX5_badPosition_54 : decode cX5_badPosition 54 = .ok (.iinc 3 1, 3) := by decide +kernel
theorem dX5_badPosition_57 : decode cX5_badPosition 57 = .ok (.goto (-53), 3) := by decide +kernel
theorem dX5_badPosition_60 : decode cX5_badPosition 60 = .ok (.iconst (-1), 1) := by decide +kernel
theorem dX5_badPosition_61 : decode cX5_badPosition 61 = .ok (.ireturn, 1) := by decide +kernel
theorem dX5_resultOfNext_0 : decode cX5_resultOfNext 0 = .ok (.aload_n 0, 1) := by decide +kernel
theorem dX5_resultOfNext_1 : decode cX5_resultOfNext 1 = .ok (.getfield 11, 3) := by decide +kernel
theorem dX5_resultOfNext_4 : decode cX5_resultOfNext 4 = .ok (.aload_n 0, 1) := by decide +kernel
theorem dX5_resultOfNext_5 : decode cX5_resultOfNext 5 = .ok (.getfield 42, 3) := by decide +kernel
theorem dX5_resultOfNext_8 : decode cX5_resultOfNext 8 = .ok (.getfield 59, 3) := by decide +kernel
theorem dX5_resultOfNext_11 : decode cX5_resultOfNext 11 = .ok (.iload_n 1, 1) := by decide +kernel
theorem dX5_resultOfNext_12 : decode cX5_resultOfNext 12 = .ok (.iaload, 1) := by decide +kernel
theorem dX5_resultOfNext_13 : decode cX5_resultOfNext 13 = .ok (.aaload, 1) := by decide +kernel
theorem dX5_resultOfNext_14 : decode cX5_resultOfNext 14 = .ok (.astore_n 2, 1) := by decide +kernel
theorem dX5_resultOfNext_15 : decode cX5_resultOfNext 15 = .ok (.aload_n 2, 1) := by decide +kernel
theorem dX5_resultOfNext_16 : decode cX5_resultOfNext 16 = .ok (.aload_n 0, 1) := by decide +kernel
theorem dX5_resultOfNext_17 : decode cX5_resultOfNext 17 = .ok (.getfield 42, 3) := by decide +kernel
theorem dX5_resultOfNext_20 : decode cX5_resultOfNext 20 = .ok (.getfield 128, 3) := by decide +kernel
theorem dX5_resultOfNext_23 : decode cX5_resultOfNext 23 = .ok (.iload_n 1, 1) := by decide +kernel
theorem dX5_resultOfNext_24 : decode cX5_resultOfNext 24 = .ok (.iaload, 1) := by decide +kernel
theorem dX5_resultOfNext_25 : decode cX5_resultOfNext 25 = .ok (.aload_n 0, 1) := by decide +kernel
theorem dX5_resultOfNext_26 : decode cX5_resultOfNext 26 = .ok (.getfield 42, 3) := by decide +kernel
