theorem dX5_resultOfNext_29 : decode cX5_resultOfNext 29 = .ok (.getfield 131, 3) := by decide +kernel
theorem dX5_resultOfNext_32 : decode cX5_resultOfNext 32 = .ok (.iload_n 1, 1) := by decide +kernel
theorem dX5_resultOfNext_33 : decode cX5_resultOfNext 33 = .ok (.iaload, 1) := by decide +kernel
theorem dX5_resultOfNext_34 : decode cX5_resultOfNext 34 = .ok (.aload_n 0, 1) := by decide +kernel
theorem dX5_resultOfNext_35 : decode cX5_resultOfNext 35 = .ok (.getfield 42, 3) := by decide +kernel
theorem dX5_resultOfNext_38 : decode cX5_resultOfNext 38 = .ok (.getfield 134, 3) := by decide +kernel
theorem dX5_resultOfNext_41 : decode cX5_resultOfNext 41 = .ok (.iload_n 1, 1) := by decide +kernel
theorem dX5_resultOfNext_42 : decode cX5_resultOfNext 42 = .ok (.iaload, 1) := by decide +kernel
theorem dX5_resultOfNext_43 : decode cX5_resultOfNext 43 = .ok (.invokevirtual 137, 3) := by decide +kernel
theorem dX5_resultOfNext_46 : decode cX5_resultOfNext 46 = .ok (.ireturn, 1) := by decide +kernel
theorem dX5_extend_0 : decode cX5_extend 0 = .ok (.aload_n 0, 1) := by decide +kernel
theorem dX5_extend_1 : decode cX5_extend 1 = .ok (.getfield 48, 3) := by decide +kernel
theorem dX5_extend_4 : decode cX5_extend 4 = .ok (.iload_n 1, 1) := by decide +kernel
theorem dX5_extend_5 : decode cX5_extend 5 = .ok (.iconst (-1), 1) := by decide +kernel
theorem dX5_extend_6 : decode cX5_extend 6 = .ok (.ixor, 1) := by decide +kernel
theorem dX5_extend_7 : decode cX5_extend 7 = .ok (.iand, 1) := by decide +kernel
theorem dX5_extend_8 : decode cX5_extend 8 = .ok (.ifCond .ne 8, 3) := by decide +kernel
theorem dX5_extend_11 : decode cX5_extend 11 = .ok (.aload_n 0, 1) := by decide +kernel
theorem dX5_extend_12 : decode cX5_extend 12 = .ok (.iload_n 2, 1) := by decide +kernel
theorem dX5_extend_13 : decode cX5_extend 13 = .ok (.invokevirtual 141, 3) := by decide +kernel
theorem dX5_extend_16 : decode cX5_extend 16 = .ok (.iload_n 2, 1) := by decide +kernel
theorem dX5_extend_17 : decode cX5_extend 17 = .ok (.bipush 10, 2) := by decide +kernel
theorem dX5_extend_19 : decode cX5_extend 19 = .ok (.if_icmp .lt 4, 3) := by decide +kernel
theorem dX5_extend_22 : decode cX5_extend 22 = .ok (.return_, 1) := by decide +kernel
theorem dX5_extend_23 : decode cX5_extend 23 = .ok (.iconst 0, 1) := by decide +kernel
theorem dX5_extend_24 : decode cX5_extend 24 = .ok (.istore_n 3, 1) := by decide +kernel
theorem dX5_extend_25 : decode cX5_extend 25 = .ok (.iload_n 3, 1) := by decide +kernel
theorem dX5_extend_26 : decode cX5_extend 26 = .ok (.aload_n 0, 1) := by decide +kernel
theorem dX5_extend_27 : decode cX5_extend 27 = .ok (.getfield 42, 3) := by decide +kernel
theorem dX5_extend_30 : decode cX5_extend 30 = .ok (.getfield 54, 3) := by decide +kernel
theorem dX5_extend_33 : decode cX5_extend 33 = .ok (.if_icmp .ge 32, 3) := by decide +kernel
theorem dX5_extend_36 : decode cX5_extend 36 = .ok (.aload_n 0, 1) := by decide +kernel
theorem dX5_extend_37 : decode cX5_extend 37 = .ok (.invokevirtual 144, 3) := by decide +kernel
theorem dX5_extend_40 : decode cX5_extend 40 = .ok (.ifCond .ne 25, 3) := by decide +kernel
theorem dX5_extend_43 : decode cX5_extend 43 = .ok (.aload_n 0, 1) := by decide +kernel
theorem dX5_extend_44 : decode cX5_extend 44 = .ok (.iload_n 3, 1) := by decide +kernel
theorem dX5_extend_45 : decode cX5_extend 45 = .ok (.iload_n 1, 1) := by decide +kernel
theorem dX5_extend_46 : decode cX5_extend 46 = .ok (.invokevirtual 118, 3) := by decide +kernel
theorem dX5_extend_49 : decode cX5_extend 49 = .ok (.ifCond .eq 10, 3) := by decide +kernel
theorem dX5_extend_52 : decode cX5_extend 52 = .ok (.aload_n 0, 1) := by decide +kernel
theorem dX5_extend_53 : decode cX5_extend 53 = .ok (.iload_n 3, 1) := by decide +kernel
theorem dX5_extend_54 : decode cX5_extend 54 = .ok (.iload_n 1, 1) := by decide +kernel
theorem dX5_extend_55 : decode cX5_extend 55 = .ok (.iload_n 2, 1) := by decide +kernel
theorem dX5_extend_56 : decode cX5_extend 56 = .ok (.invokevirtual 148, 3) := by decide +kernel
theorem dX5_extend_59 : decode cX5_extend 59 = .ok (.iinc 3 1, 3) := by decide +kernel
theorem dX5_extend_62 : decode cX5_extend 62 = .ok (.goto (-37), 3) := by decide +kernel
theorem dX5_extend_65 : decode cX5_extend 65 = .ok (.return_, 1) := by decide +kernel
theorem dX5_tryNext_0 : decode cX5_tryNext 0 = .ok (.aload_n 0, 1) := by decide +kernel
theorem dX5_tryNext_1 : decode cX5_tryNext 1 = .ok (.getfield 11, 3) := by decide +kernel
theorem dX5_tryNext_4 : decode cX5_tryNext 4 = .ok (.aload_n 0, 1) := by decide +kernel
theorem dX5_tryNext_5 : decode cX5_tryNext 5 = .ok (.getfield 42, 3) := by decide +kernel
theorem dX5_tryNext_8 : decode cX5_tryNext 8 = .ok (.getfield 59, 3) := by decide +kernel
theorem dX5_tryNext_11 : decode cX5_tryNext 11 = .ok (.iload_n 1, 1) := by decide +kernel
theorem dX5_tryNext_12 : decode cX5_tryNext 12 = .ok (.iaload, 1) := by decide +kernel
theorem dX5_tryNext_13 : decode cX5_tryNext 13 = .ok (.aaload, 1) := by decide +kernel
theorem dX5_tryNext_14 : decode cX5_tryNext 14 = .ok (.astore 4, 2) := by decide +kernel
theorem dX5_tryNext_16 : decode cX5_tryNext 16 = .ok (.aload_n 0, 1) := by decide +kernel
theorem dX5_tryNext_17 : decode cX5_tryNext 17 = .ok (.getfield 42, 3) := by decide +kernel
theorem dX5_tryNext_20 : decode cX5_tryNext 20 = .ok (.getfield 128, 3) := by decide +kernel
theorem dX5_tryNext_23 : decode cX5_tryNext 23 = .ok (.iload_n 1, 1) := by decide +kernel
theorem dX5_tryNext_24 : decode cX5_tryNext 24 = .ok (.iaload, 1) := by decide +kernel
theorem dX5_tryNext_25 : decode cX5_tryNext 25 = .ok (.istore 5, 2) := by decide +kernel
theorem dX5_tryNext_27 : decode cX5_tryNext 27 = .ok (.aload_n 0, 1) := by decide +kernel
theorem dX5_tryNext_28 : decode cX5_tryNext 28 = .ok (.getfield 42, 3) := by decide +kernel
theorem dX5_tryNext_31 : decode cX5_tryNext 31 = .ok (.getfield 131, 3) := by decide +kernel
theorem dX5_tryNext_34 : decode cX5_tryNext 34 = .ok (.iload_n 1, 1) := by decide +kernel
theorem dX5_tryNext_35 : decode cX5_tryNext 35 = .ok (.iaload, 1) := by decide +kernel
theorem dX5_tryNext_36 : decode cX5_tryNext 36 = .ok (.istore 6, 2) := by decide +kernel
theorem dX5_tryNext_38 : decode cX5_tryNext 38 = .ok (.aload 4, 2) := by decide +kernel
theorem dX5_tryNext_40 : decode cX5_tryNext 40 = .ok (.getfield 152, 3) := by decide +kernel
theorem dX5_tryNext_43 : decode cX5_tryNext 43 = .ok (.istore 7, 2) := by decide +kernel
theorem dX5_tryNext_45 : decode cX5_tryNext 45 = .ok (.aload 4, 2) := by decide +kernel
theorem dX5_tryNext_47 : decode cX5_tryNext 47 = .ok (.iload 5, 2) := by decide +kernel
theorem dX5_tryNext_49 : decode cX5_tryNext 49 = .ok (.iload 6, 2) := by decide +kernel
theorem dX5_tryNext_51 : decode cX5_tryNext 51 = .ok (.aload_n 0, 1) := by decide +kernel
theorem dX5_tryNext_52 : decode cX5_tryNext 52 = .ok (.getfield 42, 3) := by decide +kernel
theorem dX5_tryNext_55 : decode cX5_tryNext 55 = .ok (.getfield 134, 3) := by decide +kernel
theorem dX5_tryNext_58 : decode cX5_tryNext 58 = .ok (.iload_n 1, 1) := by decide +kernel
theorem dX5_tryNext_59 : decode cX5_tryNext 59 = .ok (.iaload, 1) := by decide +kernel
theorem dX5_tryNext_60 : decode cX5_tryNext 60 = .ok (.invokevirtual 137, 3) := by decide +kernel
theorem dX5_tryNext_63 : decode cX5_tryNext 63 = .ok (.istore 8, 2) := by decide +kernel
theorem dX5_tryNext_65 : decode cX5_tryNext 65 = .ok (.iload_n 1, 1) := by decide +kernel
theorem dX5_tryNext_66 : decode cX5_tryNext 66 = .ok (.aload_n 0, 1) := by decide +kernel
theorem dX5_tryNext_67 : decode cX5_tryNext 67 = .ok (.getfield 51, 3) := by decide +kernel
theorem dX5_tryNext_70 : decode cX5_tryNext 70 = .ok (.if_icmp .ne 9, 3) := by decide +kernel
theorem dX5_tryNext_73 : decode cX5_tryNext 73 = .ok (.aload_n 0, 1) := by decide +kernel
theorem dX5_tryNext_74 : decode cX5_tryNext 74 = .ok (.iload 8, 2) := by decide +kernel
theorem dX5_tryNext_76 : decode cX5_tryNext 76 = .ok (.putfield 155, 3) := by decide +kernel
theorem dX5_tryNext_79 : decode cX5_tryNext 79 = .ok (.aload_n 0, 1) := by decide +kernel
theorem dX5_tryNext_80 : decode cX5_tryNext 80 = .ok (.iload_n 1, 1) := by decide +kernel
theorem dX5_tryNext_81 : decode cX5_tryNext 81 = .ok (.iload 8, 2) := by decide +kernel
theorem dX5_tryNext_83 : decode cX5_tryNext 83 = .ok (.invokevirtual 125, 3) := by decide +kernel
theorem dX5_tryNext_86 : decode cX5_tryNext 86 = .ok (.ifCond .eq 22, 3) := by decide +kernel
theorem dX5_tryNext_89 : decode cX5_tryNext 89 = .ok (.aload_n 0, 1) := by decide +kernel
theorem dX5_tryNext_90 : decode cX5_tryNext 90 = .ok (.getfield 24, 3) := by decide +kernel
theorem dX5_tryNext_93 : decode cX5_tryNext 93 = .ok (.iload_n 3, 1) := by decide +kernel
theorem dX5_tryNext_94 : decode cX5_tryNext 94 = .ok (.iload_n 1, 1) := by decide +kernel
theorem dX5_tryNext_95 : decode cX5_tryNext 95 = .ok (.iastore, 1) := by decide +kernel
theorem dX5_tryNext_96 : decode cX5_tryNext 96 = .ok (.aload_n 0, 1) := by decide +kernel
theorem dX5_tryNext_97 : decode cX5_tryNext 97 = .ok (.iload_n 2, 1) := by decide +kernel
theorem dX5_tryNext_98 : decode cX5_tryNext 98 = .ok (.iconst 1, 1) := by decide +kernel
theorem dX5_tryNext_99 : decode cX5_tryNext 99 = .ok (.iload_n 1, 1) := by decide +kernel
theorem dX5_tryNext_100 : decode cX5_tryNext 100 = .ok (.ishl, 1) := by decide +kernel
theorem dX5_tryNext_101 : decode cX5_tryNext 101 = .ok (.ior, 1) := by decide +kernel
theorem dX5_tryNext_102 : decode cX5_tryNext 102 = .ok (.iload_n 3, 1) := by decide +kernel
theorem dX5_tryNext_103 : decode cX5_tryNext 103 = .ok (.iconst 1, 1) := by decide +kernel
theorem dX5_tryNext_104 : decode cX5_tryNext 104 = .ok (.iadd, 1) := by decide +kernel
theorem dX5_tryNext_105 : decode cX5_tryNext 105 = .ok (.invokestatic 103, 3) := by decide +kernel
theorem dX5_tryNext_108 : decode cX5_tryNext 108 = .ok (.aload 4, 2) := by decide +kernel
theorem dX5_tryNext_110 : decode cX5_tryNext 110 = .ok (.iload 5, 2) := by decide +kernel
theorem dX5_tryNext_112 : decode cX5_tryNext 112 = .ok (.iload 6, 2) := by decide +kernel
theorem dX5_tryNext_114 : decode cX5_tryNext 114 = .ok (.iload 8, 2) := by decide +kernel
theorem dX5_tryNext_116 : decode cX5_tryNext 116 = .ok (.iload 7, 2) := by decide +kernel
theorem dX5_tryNext_118 : decode cX5_tryNext 118 = .ok (.invokevirtual 158, 3) := by decide +kernel
theorem dX5_tryNext_121 : decode cX5_tryNext 121 = .ok (.return_, 1) := by decide +kernel
theorem dX5_noteFound_0 : decode cX5_noteFound 0 = .ok (.aload_n 0, 1) := by decide +kernel
theorem dX5_noteFound_1 : decode cX5_noteFound 1 = .ok (.dup, 1) := by decide +kernel
theorem dX5_noteFound_2 : decode cX5_noteFound 2 = .ok (.getfield 100, 3) := by decide +kernel
theorem dX5_noteFound_5 : decode cX5_noteFound 5 = .ok (.iconst 1, 1) := by decide +kernel
theorem dX5_noteFound_6 : decode cX5_noteFound 6 = .ok (.iadd, 1) := by decide +kernel
theorem dX5_noteFound_7 : decode cX5_noteFound 7 = .ok (.putfield 100, 3) := by decide +kernel
theorem dX5_noteFound_10 : decode cX5_noteFound 10 = .ok (.aload_n 0, 1) := by decide +kernel
theorem dX5_noteFound_11 : decode cX5_noteFound 11 = .ok (.iload_n 1, 1) := by decide +kernel
theorem dX5_noteFound_12 : decode cX5_noteFound 12 = .ok (.putfield 162, 3) := by decide +kernel
theorem dX5_noteFound_15 : decode cX5_noteFound 15 = .ok (.aload_n 0, 1) := by decide +kernel
theorem dX5_noteFound_16 : decode cX5_noteFound 16 = .ok (.getfield 51, 3) := by decide +kernel
theorem dX5_noteFound_19 : decode cX5_noteFound 19 = .ok (.iconst (-1), 1) := by decide +kernel
theorem dX5_noteFound_20 : decode cX5_noteFound 20 = .ok (.if_icmp .eq 33, 3) := by decide +kernel
theorem dX5_noteFound_23 : decode cX5_noteFound 23 = .ok (.aload_n 0, 1) := by decide +kernel
theorem dX5_noteFound_24 : decode cX5_noteFound 24 = .ok (.getfield 155, 3) := by decide +kernel
theorem dX5_noteFound_27 : decode cX5_noteFound 27 = .ok (.sipush (-999), 3) := by decide +kernel
theorem dX5_noteFound_30 : decode cX5_noteFound 30 = .ok (.sipush 999, 3) := by decide +kernel
theorem dX5_noteFound_33 : decode cX5_noteFound 33 = .ok (.invokestatic 165, 3) := by decide +kernel
theorem dX5_noteFound_36 : decode cX5_noteFound 36 = .ok (.ifCond .eq 17, 3) := by decide +kernel
theorem dX5_noteFound_39 : decode cX5_noteFound 39 = .ok (.aload_n 0, 1) := by decide +kernel
theorem dX5_noteFound_40 : decode cX5_noteFound 40 = .ok (.getfield 27, 3) := by decide +kernel
theorem dX5_noteFound_43 : decode cX5_noteFound 43 = .ok (.aload_n 0, 1) := by decide +kernel
theorem dX5_noteFound_44 : decode cX5_noteFound 44 = .ok (.getfield 155, 3) := by decide +kernel
theorem dX5_noteFound_47 : decode cX5_noteFound 47 = .ok (.sipush 999, 3) := by decide +kernel
theorem dX5_noteFound_50 : decode cX5_noteFound 50 = .ok (.iadd, 1) := by decide +kernel
theorem dX5_noteFound_51 : decode cX5_noteFound 51 = .ok (.iconst 1, 1) := by decide +kernel
theorem dX5_noteFound_52 : decode cX5_noteFound 52 = .ok (.bastore, 1) := by decide +kernel
theorem dX5_noteFound_53 : decode cX5_noteFound 53 = .ok (.return_, 1) := by decide +kernel
theorem dX5_isOver_0 : decode cX5_isOver 0 = .ok (.aload_n 0, 1) := by decide +kernel
theorem dX5_isOver_1 : decode cX5_isOver 1 = .ok (.getfield 96, 3) := by decide +kernel
theorem dX5_isOver_4 : decode cX5_isOver 4 = .ok (.ifCond .eq 14, 3) := by decide +kernel
theorem dX5_isOver_7 : decode cX5_isOver 7 = .ok (.aload_n 0, 1) := by decide +kernel
theorem dX5_isOver_8 : decode cX5_isOver 8 = .ok (.getfield 100, 3) := by decide +kernel
theorem dX5_isOver_11 : decode cX5_isOver 11 = .ok (.ifCond .le 7, 3) := by decide +kernel
theorem dX5_isOver_14 : decode cX5_isOver 14 = .ok (.iconst 1, 1) := by decide +kernel
theorem dX5_isOver_15 : decode cX5_isOver 15 = .ok (.goto 4, 3) := by decide +kernel
theorem dX5_isOver_18 : decode cX5_isOver 18 = .ok (.iconst 0, 1) := by decide +kernel
theorem dX5_isOver_19 : decode cX5_isOver 19 = .ok (.ireturn, 1) := by decide +kernel
theorem dX5_mayFollow_0 : decode cX5_mayFollow 0 = .ok (.aload_n 0, 1) := by decide +kernel
theorem dX5_mayFollow_1 : decode cX5_mayFollow 1 = .ok (.getfield 44, 3) := by decide +kernel
theorem dX5_mayFollow_4 : decode cX5_mayFollow 4 = .ok (.iload_n 2, 1) := by decide +kernel
theorem dX5_mayFollow_5 : decode cX5_mayFollow 5 = .ok (.iconst (-1), 1) := by decide +kernel
theorem dX5_mayFollow_6 : decode cX5_mayFollow 6 = .ok (.ixor, 1) := by decide +kernel
theorem dX5_mayFollow_7 : decode cX5_mayFollow 7 = .ok (.iand, 1) := by decide +kernel
theorem dX5_mayFollow_8 : decode cX5_mayFollow 8 = .ok (.istore_n 3, 1) := by decide +kernel
theorem dX5_mayFollow_9 : decode cX5_mayFollow 9 = .ok (.iload_n 3, 1) := by decide +kernel
theorem dX5_mayFollow_10 : decode cX5_mayFollow 10 = .ok (.iconst 1, 1) := by decide +kernel
theorem dX5_mayFollow_11 : decode cX5_mayFollow 11 = .ok (.iload_n 1, 1) := by decide +kernel
theorem dX5_mayFollow_12 : decode cX5_mayFollow 12 = .ok (.ishl, 1) := by decide +kernel
theorem dX5_mayFollow_13 : decode cX5_mayFollow 13 = .ok (.iand, 1) := by decide +kernel
theorem dX5_mayFollow_14 : decode cX5_mayFollow 14 = .ok (.ifCond .eq 20, 3) := by decide +kernel
theorem dX5_mayFollow_17 : decode cX5_mayFollow 17 = .ok (.aload_n 0, 1) := by decide +kernel
theorem dX5_mayFollow_18 : decode cX5_mayFollow 18 = .ok (.getfield 21, 3) := by decide +kernel
theorem dX5_mayFollow_21 : decode cX5_mayFollow 21 = .ok (.iload_n 1, 1) := by decide +kernel
theorem dX5_mayFollow_22 : decode cX5_mayFollow 22 = .ok (.iaload, 1) := by decide +kernel
theorem dX5_mayFollow_23 : decode cX5_mayFollow 23 = .ok (.iload_n 2, 1) := by decide +kernel
theorem dX5_mayFollow_24 : decode cX5_mayFollow 24 = .ok (.iconst (-1), 1) := by decide +kernel
theorem dX5_mayFollow_25 : decode cX5_mayFollow 25 = .ok (.ixor, 1) := by decide +kernel
theorem dX5_mayFollow_26 : decode cX5_mayFollow 26 = .ok (.iand, 1) := by decide +kernel
theorem dX5_mayFollow_27 : decode cX5_mayFollow 27 = .ok (.ifCond .ne 7, 3) := by decide +kernel
theorem dX5_mayFollow_30 : decode cX5_mayFollow 30 = .ok (.iconst 1, 1) := by decide +kernel
theorem dX5_mayFollow_31 : decode cX5_mayFollow 31 = .ok (.goto 4, 3) := by decide +kernel
theorem dX5_mayFollow_34 : decode cX5_mayFollow 34 = .ok (.iconst 0, 1) := by decide +kernel
theorem dX5_mayFollow_35 : decode cX5_mayFollow 35 = .ok (.ireturn, 1) := by decide +kernel
theorem dX5_agrees_0 : decode cX5_agrees 0 = .ok (.aload_n 0, 1) := by decide +kernel
theorem dX5_agrees_1 : decode cX5_agrees 1 = .ok (.getfield 74, 3) := by decide +kernel
theorem dX5_agrees_4 : decode cX5_agrees 4 = .ok (.iconst 1, 1) := by decide +kernel
theorem dX5_agrees_5 : decode cX5_agrees 5 = .ok (.iload_n 1, 1) := by decide +kernel
theorem dX5_agrees_6 : decode cX5_agrees 6 = .ok (.ishl, 1) := by decide +kernel
theorem dX5_agrees_7 : decode cX5_agrees 7 = .ok (.iand, 1) := by decide +kernel
theorem dX5_agrees_8 : decode cX5_agrees 8 = .ok (.ifCond .eq 13, 3) := by decide +kernel
theorem dX5_agrees_11 : decode cX5_agrees 11 = .ok (.aload_n 0, 1) := by decide +kernel
theorem dX5_agrees_12 : decode cX5_agrees 12 = .ok (.getfield 17, 3) := by decide +kernel
theorem dX5_agrees_15 : decode cX5_agrees 15 = .ok (.iload_n 1, 1) := by decide +kernel
theorem dX5_agrees_16 : decode cX5_agrees 16 = .ok (.iaload, 1) := by decide +kernel
theorem dX5_agrees_17 : decode cX5_agrees 17 = .ok (.iload_n 2, 1) := by decide +kernel
theorem dX5_agrees_18 : decode cX5_agrees 18 = .ok (.if_icmp .ne 7, 3) := by decide +kernel
theorem dX5_agrees_21 : decode cX5_agrees 21 = .ok (.iconst 1, 1) := by decide +kernel
theorem dX5_agrees_22 : decode cX5_agrees 22 = .ok (.goto 4, 3) := by decide +kernel
theorem dX5_agrees_25 : decode cX5_agrees 25 = .ok (.iconst 0, 1) := by decide +kernel
theorem dX5_agrees_26 : decode cX5_agrees 26 = .ok (.ireturn, 1) := by decide +kernel
theorem dX6_init_0 : decode cX6_init 0 = .ok (.aload_n 0, 1) := by decide +kernel
theorem dX6_init_1 : decode cX6_init 1 = .ok (.invokespecial 3, 3) := by decide +kernel
theorem dX6_init_4 : decode cX6_init 4 = .ok (.aload_n 0, 1) := by decide +kernel
theorem dX6_init_5 : decode cX6_init 5 = .ok (.bipush 10, 2) := by decide +kernel
theorem dX6_init_7 : decode cX6_init 7 = .ok (.newarray .int, 2) := by decide +kernel
theorem dX6_init_9 : decode cX6_init 9 = .ok (.putfield 9, 3) := by decide +kernel
theorem dX6_init_12 : decode cX6_init 12 = .ok (.aload_n 0, 1) := by decide +kernel
theorem dX6_init_13 : decode cX6_init 13 = .ok (.bipush 100, 2) := by decide +kernel
theorem dX6_init_15 : decode cX6_init 15 = .ok (.newarray .boolean, 2) := by decide +kernel
theorem dX6_init_17 : decode cX6_init 17 = .ok (.putfield 15, 3) := by decide +kernel
theorem dX6_init_20 : decode cX6_init 20 = .ok (.return_, 1) := by decide +kernel
theorem dX6_start_0 : decode cX6_start 0 = .ok (.aload_n 0, 1) := by decide +kernel
theorem dX6_start_1 : decode cX6_start 1 = .ok (.iload_n 1, 1) := by decide +kernel
theorem dX6_start_2 : decode cX6_start 2 = .ok (.putfield 19, 3) := by decide +kernel
theorem dX6_start_5 : decode cX6_start 5 = .ok (.aload_n 0, 1) := by decide +kernel
theorem dX6_start_6 : decode cX6_start 6 = .ok (.iconst 0, 1) := by decide +kernel
theorem dX6_start_7 : decode cX6_start 7 = .ok (.putfield 23, 3) := by decide +kernel
theorem dX6_start_10 : decode cX6_start 10 = .ok (.aload_n 0, 1) := by decide +kernel
theorem dX6_start_11 : decode cX6_start 11 = .ok (.iconst 0, 1) := by decide +kernel
theorem dX6_start_12 : decode cX6_start 12 = .ok (.putfield 26, 3) := by decide +kernel
theorem dX6_start_15 : decode cX6_start 15 = .ok (.iconst 0, 1) := by decide +kernel
theorem dX6_start_16 : decode cX6_start 16 = .ok (.istore_n 2, 1) := by decide +kernel
theorem dX6_start_17 : decode cX6_start 17 = .ok (.iload_n 2, 1) := by decide +kernel
theorem dX6_start_18 : decode cX6_start 18 = .ok (.bipush 99, 2) := by decide +kernel
theorem dX6_start_20 : decode cX6_start 20 = .ok (.if_icmp .gt 16, 3) := by decide +kernel
theorem dX6_start_23 : decode cX6_start 23 = .ok (.aload_n 0, 1) := by decide +kernel
theorem dX6_start_24 : decode cX6_start 24 = .ok (.getfield 15, 3) := by decide +kernel
theorem dX6_start_27 : decode cX6_start 27 = .ok (.iload_n 2, 1) := by decide +kernel
theorem dX6_start_28 : decode cX6_start 28 = .ok (.iconst 0, 1) := by decide +kernel
theorem dX6_start_29 : decode cX6_start 29 = .ok (.bastore, 1) := by decide +kernel
theorem dX6_start_30 : decode cX6_start 30 = .ok (.iinc 2 1, 3) := by decide +kernel
theorem dX6_start_33 : decode cX6_start 33 = .ok (.goto (-16), 3) := by decide +kernel
theorem dX6_start_36 : decode cX6_start 36 = .ok (.return_, 1) := by decide +kernel
theorem dX6_perform_0 : decode cX6_perform 0 = .ok (.iload_n 1, 1) := by decide +kernel
theorem dX6_perform_1 : decode cX6_perform 1 = .ok (.tableswitch 123 1 9 #[51, 58, 123, 65, 82, 88, 93, 103, 113], 51) := by decide +kernel
theorem dX6_perform_52 : decode cX6_perform 52 = .ok (.aload_n 0, 1) := by decide +kernel
theorem dX6_perform_53 : decode cX6_perform 53 = .ok (.iload_n 2, 1) := by decide +kernel
theorem dX6_perform_54 : decode cX6_perform 54 = .ok (.putfield 19, 3) := by decide +kernel
theorem dX6_perform_57 : decode cX6_perform 57 = .ok (.iconst 0, 1) := by decide +kernel
theorem dX6_perform_58 : decode cX6_perform 58 = .ok (.ireturn, 1) := by decide +kernel
theorem dX6_perform_59 : decode cX6_perform 59 = .ok (.aload_n 0, 1) := by decide +kernel
theorem dX6_perform_60 : decode cX6_perform 60 = .ok (.iload_n 2, 1) := by decide +kernel
theorem dX6_perform_61 : decode cX6_perform 61 = .ok (.iload_n 3, 1) := by decide +kernel
theorem dX6_perform_62 : decode cX6_perform 62 = .ok (.invokevirtual 29, 3) := by decide +kernel
theorem dX6_perform_65 : decode cX6_perform 65 = .ok (.ireturn, 1) := by decide +kernel
theorem dX6_perform_66 : decode cX6_perform 66 = .ok (.aload_n 0, 1) := by decide +kernel
theorem dX6_perform_67 : decode cX6_perform 67 = .ok (.dup, 1) := by decide +kernel
theorem dX6_perform_68 : decode cX6_perform 68 = .ok (.getfield 19, 3) := by decide +kernel
theorem dX6_perform_71 : decode cX6_perform 71 = .ok (.iload_n 2, 1) := by decide +kernel
theorem dX6_perform_72 : decode cX6_perform 72 = .ok (.iadd, 1) := by decide +kernel
theorem dX6_perform_73 : decode cX6_perform 73 = .ok (.putfield 19, 3) := by decide +kernel
theorem dX6_perform_76 : decode cX6_perform 76 = .ok (.aload_n 0, 1) := by decide +kernel
theorem dX6_perform_77 : decode cX6_perform 77 = .ok (.getfield 19, 3) := by decide +kernel
theorem dX6_perform_80 : decode cX6_perform 80 = .ok (.iload_n 2, 1) := by decide +kernel
theorem dX6_perform_81 : decode cX6_perform 81 = .ok (.isub, 1) := by decide +kernel
theorem dX6_perform_82 : decode cX6_perform 82 = .ok (.ireturn, 1) := by decide +kernel
theorem dX6_perform_83 : decode cX6_perform 83 = .ok (.aload_n 0, 1) := by decide +kernel
theorem dX6_perform_84 : decode cX6_perform 84 = .ok (.iload_n 2, 1) := by decide +kernel
theorem dX6_perform_85 : decode cX6_perform 85 = .ok (.invokevirtual 33, 3) := by decide +kernel
theorem dX6_perform_88 : decode cX6_perform 88 = .ok (.ireturn, 1) := by decide +kernel
theorem dX6_perform_89 : decode cX6_perform 89 = .ok (.aload_n 0, 1) := by decide +kernel
theorem dX6_perform_90 : decode cX6_perform 90 = .ok (.invokevirtual 37, 3) := by decide +kernel
theorem dX6_perform_93 : decode cX6_perform 93 = .ok (.ireturn, 1) := by decide +kernel
theorem dX6_perform_94 : decode cX6_perform 94 = .ok (.aload_n 0, 1) := by decide +kernel
theorem dX6_perform_95 : decode cX6_perform 95 = .ok (.iload_n 2, 1) := by decide +kernel
theorem dX6_perform_96 : decode cX6_perform 96 = .ok (.iconst 1, 1) := by decide +kernel
theorem dX6_perform_97 : decode cX6_perform 97 = .ok (.invokevirtual 41, 3) := by decide +kernel
theorem dX6_perform_100 : decode cX6_perform 100 = .ok (.invokestatic 45, 3) := by decide +kernel
theorem dX6_perform_103 : decode cX6_perform 103 = .ok (.ireturn, 1) := by decide +kernel
theorem dX6_perform_104 : decode cX6_perform 104 = .ok (.aload_n 0, 1) := by decide +kernel
theorem dX6_perform_105 : decode cX6_perform 105 = .ok (.iload_n 2, 1) := by decide +kernel
theorem dX6_perform_106 : decode cX6_perform 106 = .ok (.iconst 0, 1) := by decide +kernel
theorem dX6_perform_107 : decode cX6_perform 107 = .ok (.invokevirtual 41, 3) := by decide +kernel
theorem dX6_perform_110 : decode cX6_perform 110 = .ok (.invokestatic 45, 3) := by decide +kernel
theorem dX6_perform_113 : decode cX6_perform 113 = .ok (.ireturn, 1) := by decide +kernel
theorem dX6_perform_114 : decode cX6_perform 114 = .ok (.aload_n 0, 1) := by decide +kernel
theorem dX6_perform_115 : decode cX6_perform 115 = .ok (.getfield 15, 3) := by decide +kernel
theorem dX6_perform_118 : decode cX6_perform 118 = .ok (.iload_n 2, 1) := by decide +kernel
theorem dX6_perform_119 : decode cX6_perform 119 = .ok (.baload, 1) := by decide +kernel
theorem dX6_perform_120 : decode cX6_perform 120 = .ok (.invokestatic 45, 3) := by decide +kernel
theorem dX6_perform_123 : decode cX6_perform 123 = .ok (.ireturn, 1) := by decide +kernel
theorem dX6_perform_124 : decode cX6_perform 124 = .ok (.aload_n 0, 1) := by decide +kernel
theorem dX6_perform_125 : decode cX6_perform 125 = .ok (.getfield 19, 3) := by decide +kernel
theorem dX6_perform_128 : decode cX6_perform 128 = .ok (.ireturn, 1) := by decide +kernel
theorem dX6_takeBack_0 : decode cX6_takeBack 0 = .ok (.aload_n 0, 1) := by decide +kernel
theorem dX6_takeBack_1 : decode cX6_takeBack 1 = .ok (.iload 4, 2) := by decide +kernel
theorem dX6_takeBack_3 : decode cX6_takeBack 3 = .ok (.putfield 19, 3) := by decide +kernel
theorem dX6_takeBack_6 : decode cX6_takeBack 6 = .ok (.iload_n 1, 1) := by decide +kernel
theorem dX6_takeBack_7 : decode cX6_takeBack 7 = .ok (.iconst 5, 1) := by decide +kernel
theorem dX6_takeBack_8 : decode cX6_takeBack 8 = .ok (.if_icmp .ne 16, 3) := by decide +kernel
theorem dX6_takeBack_11 : decode cX6_takeBack 11 = .ok (.aload_n 0, 1) := by decide +kernel
theorem dX6_takeBack_12 : decode cX6_takeBack 12 = .ok (.dup, 1) := by decide +kernel
theorem dX6_takeBack_13 : decode cX6_takeBack 13 = .ok (.getfield 26, 3) := by decide +kernel
theorem dX6_takeBack_16 : decode cX6_takeBack 16 = .ok (.iconst 1, 1) := by decide +kernel
theorem dX6_takeBack_17 : decode cX6_takeBack 17 = .ok (.isub, 1) := by decide +kernel
theorem dX6_takeBack_18 : decode cX6_takeBack 18 = .ok (.putfield 26, 3) := by decide +kernel
theorem dX6_takeBack_21 : decode cX6_takeBack 21 = .ok (.goto 66, 3) := by decide +kernel
theorem dX6_takeBack_24 : decode cX6_takeBack 24 = .ok (.iload_n 1, 1) := by decide +kernel
theorem dX6_takeBack_25 : decode cX6_takeBack 25 = .ok (.bipush 6, 2) := by decide +kernel
theorem dX6_takeBack_27 : decode cX6_takeBack 27 = .ok (.if_icmp .ne 21, 3) := by decide +kernel
theorem dX6_takeBack_30 : decode cX6_takeBack 30 = .ok (.iload_n 3, 1) := by decide +kernel
theorem dX6_takeBack_31 : decode cX6_takeBack 31 = .ok (.iconst (-1), 1) := by decide +kernel
theorem dX6_takeBack_32 : decode cX6_takeBack 32 = .ok (.if_icmp .eq 16, 3) := by decide +kernel
theorem dX6_takeBack_35 : decode cX6_takeBack 35 = .ok (.aload_n 0, 1) := by decide +kernel
theorem dX6_takeBack_36 : decode cX6_takeBack 36 = .ok (.dup, 1) := by decide +kernel
theorem dX6_takeBack_37 : decode cX6_takeBack 37 = .ok (.getfield 23, 3) := by decide +kernel
theorem dX6_takeBack_40 : decode cX6_takeBack 40 = .ok (.iconst 1, 1) := by decide +kernel
theorem dX6_takeBack_41 : decode cX6_takeBack 41 = .ok (.isub, 1) := by decide +kernel
theorem dX6_takeBack_42 : decode cX6_takeBack 42 = .ok (.putfield 23, 3) := by decide +kernel
theorem dX6_takeBack_45 : decode cX6_takeBack 45 = .ok (.goto 42, 3) := by decide +kernel
theorem dX6_takeBack_48 : decode cX6_takeBack 48 = .ok (.iload_n 1, 1) := by decide +kernel
theorem dX6_takeBack_49 : decode cX6_takeBack 49 = .ok (.bipush 7, 2) := by decide +kernel
theorem dX6_takeBack_51 : decode cX6_takeBack 51 = .ok (.if_icmp .ne 18, 3) := by decide +kernel
theorem dX6_takeBack_54 : decode cX6_takeBack 54 = .ok (.iload_n 3, 1) := by decide +kernel
theorem dX6_takeBack_55 : decode cX6_takeBack 55 = .ok (.iconst 1, 1) := by decide +kernel
theorem dX6_takeBack_56 : decode cX6_takeBack 56 = .ok (.if_icmp .ne 13, 3) := by decide +kernel
theorem dX6_takeBack_59 : decode cX6_takeBack 59 = .ok (.aload_n 0, 1) := by decide +kernel
theorem dX6_takeBack_60 : decode cX6_takeBack 60 = .ok (.iload_n 2, 1) := by decide +kernel
theorem dX6_takeBack_61 : decode cX6_takeBack 61 = .ok (.iconst 0, 1) := by decide +kernel
theorem dX6_takeBack_62 : decode cX6_takeBack 62 = .ok (.invokevirtual 41, 3) := by decide +kernel
theorem dX6_takeBack_65 : decode cX6_takeBack 65 = .ok (.pop, 1) := by decide +kernel
theorem dX6_takeBack_66 : decode cX6_takeBack 66 = .ok (.goto 21, 3) := by decide +kernel
theorem dX6_takeBack_69 : decode cX6_takeBack 69 = .ok (.iload_n 1, 1) := by decide +kernel
theorem dX6_takeBack_70 : decode cX6_takeBack 70 = .ok (.bipush 8, 2) := by decide +kernel
theorem dX6_takeBack_72 : decode cX6_takeBack 72 = .ok (.if_icmp .ne 15, 3) := by decide +kernel
theorem dX6_takeBack_75 : decode cX6_takeBack 75 = .ok (.iload_n 3, 1) := by decide +kernel
theorem dX6_takeBack_76 : decode cX6_takeBack 76 = .ok (.iconst 1, 1) := by decide +kernel
theorem dX6_takeBack_77 : decode cX6_takeBack 77 = .ok (.if_icmp .ne 10, 3) := by decide +kernel
theorem dX6_takeBack_80 : decode cX6_takeBack 80 = .ok (.aload_n 0, 1) := by decide +kernel
theorem dX6_takeBack_81 : decode cX6_takeBack 81 = .ok (.iload_n 2, 1) := by decide +kernel
theorem dX6_takeBack_82 : decode cX6_takeBack 82 = .ok (.iconst 1, 1) := by decide +kernel
theorem dX6_takeBack_83 : decode cX6_takeBack 83 = .ok (.invokevirtual 41, 3) := by decide +kernel
theorem dX6_takeBack_86 : decode cX6_takeBack 86 = .ok (.pop, 1) := by decide +kernel
theorem dX6_takeBack_87 : decode cX6_takeBack 87 = .ok (.return_, 1) := by decide +kernel
theorem dX6_compareAndSet_0 : decode cX6_compareAndSet 0 = .ok (.aload_n 0, 1) := by decide +kernel
theorem dX6_compareAndSet_1 : decode cX6_compareAndSet 1 = .ok (.getfield 19, 3) := by decide +kernel
theorem dX6_compareAndSet_4 : decode cX6_compareAndSet 4 = .ok (.iload_n 1, 1) := by decide +kernel
theorem dX6_compareAndSet_5 : decode cX6_compareAndSet 5 = .ok (.if_icmp .eq 5, 3) := by decide +kernel
theorem dX6_compareAndSet_8 : decode cX6_compareAndSet 8 = .ok (.iconst 0, 1) := by decide +kernel
theorem dX6_compareAndSet_9 : decode cX6_compareAndSet 9 = .ok (.ireturn, 1) := by decide +kernel
theorem dX6_compareAndSet_10 : decode cX6_compareAndSet 10 = .ok (.aload_n 0, 1) := by decide +kernel
theorem dX6_compareAndSet_11 : decode cX6_compareAndSet 11 = .ok (.iload_n 2, 1) := by decide +kernel
theorem dX6_compareAndSet_12 : decode cX6_compareAndSet 12 = .ok (.putfield 19, 3) := by decide +kernel
theorem dX6_compareAndSet_15 : decode cX6_compareAndSet 15 = .ok (.iconst 1, 1) := by decide +kernel
theorem dX6_compareAndSet_16 : decode cX6_compareAndSet 16 = .ok (.ireturn, 1) := by decide +kernel
theorem dX6_enqueue_0 : decode cX6_enqueue 0 = .ok (.aload_n 0, 1) := by decide +kernel
theorem dX6_enqueue_1 : decode cX6_enqueue 1 = .ok (.getfield 26, 3) := by decide +kernel
theorem dX6_enqueue_4 : decode cX6_enqueue 4 = .ok (.iconst 0, 1) := by decide +kernel
theorem dX6_enqueue_5 : decode cX6_enqueue 5 = .ok (.bipush 9, 2) := by decide +kernel
theorem dX6_enqueue_7 : decode cX6_enqueue 7 = .ok (.invokestatic 49, 3) := by decide +kernel
theorem dX6_enqueue_10 : decode cX6_enqueue 10 = .ok (.ifCond .eq 13, 3) := by decide +kernel
theorem dX6_enqueue_13 : decode cX6_enqueue 13 = .ok (.aload_n 0, 1) := by decide +kernel
theorem dX6_enqueue_14 : decode cX6_enqueue 14 = .ok (.getfield 9, 3) := by decide +kernel
theorem dX6_enqueue_17 : decode cX6_enqueue 17 = .ok (.aload_n 0, 1) := by decide +kernel
theorem dX6_enqueue_18 : decode cX6_enqueue 18 = .ok (.getfield 26, 3) := by decide +kernel
theorem dX6_enqueue_21 : decode cX6_enqueue 21 = .ok (.iload_n 1, 1) := by decide +kernel
theorem dX6_enqueue_22 : decode cX6_enqueue 22 = .ok (.iastore, 1) := by decide +kernel
theorem dX6_enqueue_23 : decode cX6_enqueue 23 = .ok (.aload_n 0, 1) := by decide +kernel
theorem dX6_enqueue_24 : decode cX6_enqueue 24 = .ok (.dup, 1) := by decide +kernel
theorem dX6_enqueue_25 : decode cX6_enqueue 25 = .ok (.getfield 26, 3) := by decide +kernel
theorem dX6_enqueue_28 : decode cX6_enqueue 28 = .ok (.iconst 1, 1) := by decide +kernel
theorem dX6_enqueue_29 : decode cX6_enqueue 29 = .ok (.iadd, 1) := by decide +kernel
theorem dX6_enqueue_30 : decode cX6_enqueue 30 = .ok (.putfield 26, 3) := by decide +kernel
theorem dX6_enqueue_33 : decode cX6_enqueue 33 = .ok (.iconst 0, 1) := by decide +kernel
theorem dX6_enqueue_34 : decode cX6_enqueue 34 = .ok (.ireturn, 1) := by decide +kernel
theorem dX6_dequeue_0 : decode cX6_dequeue 0 = .ok (.aload_n 0, 1) := by decide +kernel
theorem dX6_dequeue_1 : decode cX6_dequeue 1 = .ok (.getfield 23, 3) := by decide +kernel
theorem dX6_dequeue_4 : decode cX6_dequeue 4 = .ok (.aload_n 0, 1) := by decide +kernel
theorem dX6_dequeue_5 : decode cX6_dequeue 5 = .ok (.getfield 26, 3) := by decide +kernel
theorem dX6_dequeue_8 : decode cX6_dequeue 8 = .ok (.if_icmp .ge 16, 3) := by decide +kernel
theorem dX6_dequeue_11 : decode cX6_dequeue 11 = .ok (.aload_n 0, 1) := by decide +kernel
theorem dX6_dequeue_12 : decode cX6_dequeue 12 = .ok (.getfield 23, 3) := by decide +kernel
theorem dX6_dequeue_15 : decode cX6_dequeue 15 = .ok (.iconst 0, 1) := by decide +kernel
theorem dX6_dequeue_16 : decode cX6_dequeue 16 = .ok (.bipush 9, 2) := by decide +kernel
theorem dX6_dequeue_18 : decode cX6_dequeue 18 = .ok (.invokestatic 49, 3) := by decide +kernel
theorem dX6_dequeue_21 : decode cX6_dequeue 21 = .ok (.ifCond .ne 5, 3) := by decide +kernel
theorem dX6_dequeue_24 : decode cX6_dequeue 24 = .ok (.iconst (-1), 1) := by decide +kernel
theorem dX6_dequeue_25 : decode cX6_dequeue 25 = .ok (.ireturn, 1) := by decide +kernel
theorem dX6_dequeue_26 : decode cX6_dequeue 26 = .ok (.aload_n 0, 1) := by decide +kernel
theorem dX6_dequeue_27 : decode cX6_dequeue 27 = .ok (.dup, 1) := by decide +kernel
theorem dX6_dequeue_28 : decode cX6_dequeue 28 = .ok (.getfield 23, 3) := by decide +kernel
theorem dX6_dequeue_31 : decode cX6_dequeue 31 = .ok (.iconst 1, 1) := by decide +kernel
theorem dX6_dequeue_32 : decode cX6_dequeue 32 = .ok (.iadd, 1) := by decide +kernel
theorem dX6_dequeue_33 : decode cX6_dequeue 33 = .ok (.putfield 23, 3) := by decide +kernel
theorem dX6_dequeue_36 : decode cX6_dequeue 36 = .ok (.aload_n 0, 1) := by decide +kernel
theorem dX6_dequeue_37 : decode cX6_dequeue 37 = .ok (.getfield 9, 3) := by decide +kernel
theorem dX6_dequeue_40 : decode cX6_dequeue 40 = .ok (.aload_n 0, 1) := by decide +kernel
theorem dX6_dequeue_41 : decode cX6_dequeue 41 = .ok (.getfield 23, 3) := by decide +kernel
theorem dX6_dequeue_44 : decode cX6_dequeue 44 = .ok (.iconst 1, 1) := by decide +kernel
theorem dX6_dequeue_45 : decode cX6_dequeue 45 = .ok (.isub, 1) := by decide +kernel
theorem dX6_dequeue_46 : decode cX6_dequeue 46 = .ok (.iaload, 1) := by decide +kernel
theorem dX6_dequeue_47 : decode cX6_dequeue 47 = .ok (.ireturn, 1) := by decide +kernel
theorem dX6_changesElement_0 : decode cX6_changesElement 0 = .ok (.aload_n 0, 1) := by decide +kernel
theorem dX6_changesElement_1 : decode cX6_changesElement 1 = .ok (.getfield 15, 3) := by decide +kernel
theorem dX6_changesElement_4 : decode cX6_changesElement 4 = .ok (.iload_n 1, 1) := by decide +kernel
theorem dX6_changesElement_5 : decode cX6_changesElement 5 = .ok (.baload, 1) := by decide +kernel
theorem dX6_changesElement_6 : decode cX6_changesElement 6 = .ok (.iload_n 2, 1) := by decide +kernel
theorem dX6_changesElement_7 : decode cX6_changesElement 7 = .ok (.if_icmp .ne 5, 3) := by decide +kernel
theorem dX6_changesElement_10 : decode cX6_changesElement 10 = .ok (.iconst 0, 1) := by decide +kernel
theorem dX6_changesElement_11 : decode cX6_changesElement 11 = .ok (.ireturn, 1) := by decide +kernel
theorem dX6_changesElement_12 : decode cX6_changesElement 12 = .ok (.aload_n 0, 1) := by decide +kernel
theorem dX6_changesElement_13 : decode cX6_changesElement 13 = .ok (.getfield 15, 3) := by decide +kernel
theorem dX6_changesElement_16 : decode cX6_changesElement 16 = .ok (.iload_n 1, 1) := by decide +kernel
theorem dX6_changesElement_17 : decode cX6_changesElement 17 = .ok (.iload_n 2, 1) := by decide +kernel
theorem dX6_changesElement_18 : decode cX6_changesElement 18 = .ok (.bastore, 1) := by decide +kernel
theorem dX6_changesElement_19 : decode cX6_changesElement 19 = .ok (.iconst 1, 1) := by decide +kernel
theorem dX6_changesElement_20 : decode cX6_changesElement 20 = .ok (.ireturn, 1) := by decide +kernel
theorem dX7_init_0 : decode cX7_init 0 = .ok (.aload_n 0, 1) := by decide +kernel
theorem dX7_init_1 : decode cX7_init 1 = .ok (.invokespecial 3, 3) := by decide +kernel
theorem dX7_init_4 : decode cX7_init 4 = .ok (.aload_n 0, 1) := by decide +kernel
theorem dX7_init_5 : decode cX7_init 5 = .ok (.bipush 120, 2) := by decide +kernel
theorem dX7_init_7 : decode cX7_init 7 = .ok (.newarray .char, 2) := by decide +kernel
theorem dX7_init_9 : decode cX7_init 9 = .ok (.putfield 9, 3) := by decide +kernel
theorem dX7_init_12 : decode cX7_init 12 = .ok (.return_, 1) := by decide +kernel
theorem dX7_empty_0 : decode cX7_empty 0 = .ok (.aload_n 0, 1) := by decide +kernel
theorem dX7_empty_1 : decode cX7_empty 1 = .ok (.iconst 0, 1) := by decide +kernel
theorem dX7_empty_2 : decode cX7_empty 2 = .ok (.putfield 15, 3) := by decide +kernel
theorem dX7_empty_5 : decode cX7_empty 5 = .ok (.return_, 1) := by decide +kernel
theorem dX7_append_0 : decode cX7_append 0 = .ok (.aload_n 0, 1) := by decide +kernel
theorem dX7_append_1 : decode cX7_append 1 = .ok (.getfield 15, 3) := by decide +kernel
theorem dX7_append_4 : decode cX7_append 4 = .ok (.bipush 120, 2) := by decide +kernel
theorem dX7_append_6 : decode cX7_append 6 = .ok (.if_icmp .ge 23, 3) := by decide +kernel
theorem dX7_append_9 : decode cX7_append 9 = .ok (.aload_n 0, 1) := by decide +kernel
theorem dX7_append_10 : decode cX7_append 10 = .ok (.getfield 9, 3) := by decide +kernel
theorem dX7_append_13 : decode cX7_append 13 = .ok (.aload_n 0, 1) := by decide +kernel
theorem dX7_append_14 : decode cX7_append 14 = .ok (.getfield 15, 3) := by decide +kernel
theorem dX7_append_17 : decode cX7_append 17 = .ok (.iload_n 1, 1) := by decide +kernel
theorem dX7_append_18 : decode cX7_append 18 = .ok (.castore, 1) := by decide +kernel
theorem dX7_append_19 : decode cX7_append 19 = .ok (.aload_n 0, 1) := by decide +kernel
theorem dX7_append_20 : decode cX7_append 20 = .ok (.dup, 1) := by decide +kernel
theorem dX7_append_21 : decode cX7_append 21 = .ok (.getfield 15, 3) := by decide +kernel
theorem dX7_append_24 : decode cX7_append 24 = .ok (.iconst 1, 1) := by decide +kernel
theorem dX7_append_25 : decode cX7_append 25 = .ok (.iadd, 1) := by decide +kernel
theorem dX7_append_26 : decode cX7_append 26 = .ok (.putfield 15, 3) := by decide +kernel
theorem dX7_append_29 : decode cX7_append 29 = .ok (.return_, 1) := by decide +kernel
theorem dX8_init_0 : decode cX8_init 0 = .ok (.aload_n 0, 1) := by decide +kernel
theorem dX8_init_1 : decode cX8_init 1 = .ok (.invokespecial 3, 3) := by decide +kernel
theorem dX8_init_4 : decode cX8_init 4 = .ok (.aload_n 0, 1) := by decide +kernel
theorem dX8_init_5 : decode cX8_init 5 = .ok (.new 9, 3) := by decide +kernel
theorem dX8_init_8 : decode cX8_init 8 = .ok (.dup, 1) := by decide +kernel
theorem dX8_init_9 : decode cX8_init 9 = .ok (.invokespecial 11, 3) := by decide +kernel
theorem dX8_init_12 : decode cX8_init 12 = .ok (.putfield 12, 3) := by decide +kernel
theorem dX8_init_15 : decode cX8_init 15 = .ok (.aload_n 0, 1) := by decide +kernel
theorem dX8_init_16 : decode cX8_init 16 = .ok (.new 9, 3) := by decide +kernel
theorem dX8_init_19 : decode cX8_init 19 = .ok (.dup, 1) := by decide +kernel
theorem dX8_init_20 : decode cX8_init 20 = .ok (.invokespecial 11, 3) := by decide +kernel
theorem dX8_init_23 : decode cX8_init 23 = .ok (.putfield 16, 3) := by decide +kernel
theorem dX8_init_26 : decode cX8_init 26 = .ok (.aload_n 0, 1) := by decide +kernel
theorem dX8_init_27 : decode cX8_init 27 = .ok (.new 19, 3) := by decide +kernel
theorem dX8_init_30 : decode cX8_init 30 = .ok (.dup, 1) := by decide +kernel
theorem dX8_init_31 : decode cX8_init 31 = .ok (.aload_n 0, 1) := by decide +kernel
theorem dX8_init_32 : decode cX8_init 32 = .ok (.getfield 12, 3) := by decide +kernel
theorem dX8_init_35 : decode cX8_init 35 = .ok (.invokespecial 21, 3) := by decide +kernel
theorem dX8_init_38 : decode cX8_init 38 = .ok (.putfield 24, 3) := by decide +kernel
theorem dX8_init_41 : decode cX8_init 41 = .ok (.aload_n 0, 1) := by decide +kernel
theorem dX8_init_42 : decode cX8_init 42 = .ok (.new 28, 3) := by decide +kernel
theorem dX8_init_45 : decode cX8_init 45 = .ok (.dup, 1) := by decide +kernel
theorem dX8_init_46 : decode cX8_init 46 = .ok (.invokespecial 30, 3) := by decide +kernel
theorem dX8_init_49 : decode cX8_init 49 = .ok (.putfield 31, 3) := by decide +kernel
theorem dX8_init_52 : decode cX8_init 52 = .ok (.aload_n 0, 1) := by decide +kernel
theorem dX8_init_53 : decode cX8_init 53 = .ok (.new 35, 3) := by decide +kernel
theorem dX8_init_56 : decode cX8_init 56 = .ok (.dup, 1) := by decide +kernel
theorem dX8_init_57 : decode cX8_init 57 = .ok (.aload_n 0, 1) := by decide +kernel
theorem dX8_init_58 : decode cX8_init 58 = .ok (.getfield 31, 3) := by decide +kernel
theorem dX8_init_61 : decode cX8_init 61 = .ok (.invokespecial 37, 3) := by decide +kernel
theorem dX8_init_64 : decode cX8_init 64 = .ok (.putfield 40, 3) := by decide +kernel
theorem dX8_init_67 : decode cX8_init 67 = .ok (.aload_n 0, 1) := by decide +kernel
theorem dX8_init_68 : decode cX8_init 68 = .ok (.iconst 0, 1) := by decide +kernel
theorem dX8_init_69 : decode cX8_init 69 = .ok (.putfield 44, 3) := by decide +kernel
theorem dX8_init_72 : decode cX8_init 72 = .ok (.return_, 1) := by decide +kernel
theorem dX8_createRegister_0 : decode cX8_createRegister 0 = .ok (.iload_n 1, 1) := by decide +kernel
theorem dX8_createRegister_1 : decode cX8_createRegister 1 = .ok (.iconst 0, 1) := by decide +kernel
theorem dX8_createRegister_2 : decode cX8_createRegister 2 = .ok (.bipush 99, 2) := by decide +kernel
theorem dX8_createRegister_4 : decode cX8_createRegister 4 = .ok (.invokestatic 48, 3) := by decide +kernel
theorem dX8_createRegister_7 : decode cX8_createRegister 7 = .ok (.ifCond .ne 6, 3) := by decide +kernel
theorem dX8_createRegister_10 : decode cX8_createRegister 10 = .ok (.bipush (-4), 2) := by decide +kernel
theorem dX8_createRegister_12 : decode cX8_createRegister 12 = .ok (.ireturn, 1) := by decide +kernel
theorem dX8_createRegister_13 : decode cX8_createRegister 13 = .ok (.aload_n 0, 1) := by decide +kernel
theorem dX8_createRegister_14 : decode cX8_createRegister 14 = .ok (.iconst 0, 1) := by decide +kernel
theorem dX8_createRegister_15 : decode cX8_createRegister 15 = .ok (.iload_n 1, 1) := by decide +kernel
theorem dX8_createRegister_16 : decode cX8_createRegister 16 = .ok (.invokevirtual 52, 3) := by decide +kernel
theorem dX8_createRegister_19 : decode cX8_createRegister 19 = .ok (.ireturn, 1) := by decide +kernel
theorem dX8_createCounter_0 : decode cX8_createCounter 0 = .ok (.iload_n 1, 1) := by decide +kernel
theorem dX8_createCounter_1 : decode cX8_createCounter 1 = .ok (.bipush (-99), 2) := by decide +kernel
theorem dX8_createCounter_3 : decode cX8_createCounter 3 = .ok (.bipush 99, 2) := by decide +kernel
theorem dX8_createCounter_5 : decode cX8_createCounter 5 = .ok (.invokestatic 48, 3) := by decide +kernel
theorem dX8_createCounter_8 : decode cX8_createCounter 8 = .ok (.ifCond .ne 6, 3) := by decide +kernel
theorem dX8_createCounter_11 : decode cX8_createCounter 11 = .ok (.bipush (-4), 2) := by decide +kernel
theorem dX8_createCounter_13 : decode cX8_createCounter 13 = .ok (.ireturn, 1) := by decide +kernel
theorem dX8_createCounter_14 : decode cX8_createCounter 14 = .ok (.aload_n 0, 1) := by decide +kernel
theorem dX8_createCounter_15 : decode cX8_createCounter 15 = .ok (.iconst 1, 1) := by decide +kernel
theorem dX8_createCounter_16 : decode cX8_createCounter 16 = .ok (.iload_n 1, 1) := by decide +kernel
theorem dX8_createCounter_17 : decode cX8_createCounter 17 = .ok (.invokevirtual 52, 3) := by decide +kernel
theorem dX8_createCounter_20 : decode cX8_createCounter 20 = .ok (.ireturn, 1) := by decide +kernel
theorem dX8_createQueue_0 : decode cX8_createQueue 0 = .ok (.aload_n 0, 1) := by decide +kernel
theorem dX8_createQueue_1 : decode cX8_createQueue 1 = .ok (.iconst 2, 1) := by decide +kernel
theorem dX8_createQueue_2 : decode cX8_createQueue 2 = .ok (.iconst 0, 1) := by decide +kernel
theorem dX8_createQueue_3 : decode cX8_createQueue 3 = .ok (.invokevirtual 52, 3) := by decide +kernel
theorem dX8_createQueue_6 : decode cX8_createQueue 6 = .ok (.ireturn, 1) := by decide +kernel
theorem dX8_createSet_0 : decode cX8_createSet 0 = .ok (.aload_n 0, 1) := by decide +kernel
theorem dX8_createSet_1 : decode cX8_createSet 1 = .ok (.iconst 3, 1) := by decide +kernel
theorem dX8_createSet_2 : decode cX8_createSet 2 = .ok (.iconst 0, 1) := by decide +kernel
theorem dX8_createSet_3 : decode cX8_createSet 3 = .ok (.invokevirtual 52, 3) := by decide +kernel
theorem dX8_createSet_6 : decode cX8_createSet 6 = .ok (.ireturn, 1) := by decide +kernel
theorem dX8_objectCount_0 : decode cX8_objectCount 0 = .ok (.aload_n 0, 1) := by decide +kernel
theorem dX8_objectCount_1 : decode cX8_objectCount 1 = .ok (.getfield 12, 3) := by decide +kernel
theorem dX8_objectCount_4 : decode cX8_objectCount 4 = .ok (.getfield 56, 3) := by decide +kernel
theorem dX8_objectCount_7 : decode cX8_objectCount 7 = .ok (.getfield 60, 3) := by decide +kernel
theorem dX8_objectCount_10 : decode cX8_objectCount 10 = .ok (.ireturn, 1) := by decide +kernel
theorem dX8_typeOf_0 : decode cX8_typeOf 0 = .ok (.aload_n 0, 1) := by decide +kernel
theorem dX8_typeOf_1 : decode cX8_typeOf 1 = .ok (.getfield 12, 3) := by decide +kernel
theorem dX8_typeOf_4 : decode cX8_typeOf 4 = .ok (.getfield 56, 3) := by decide +kernel
theorem dX8_typeOf_7 : decode cX8_typeOf 7 = .ok (.iload_n 1, 1) := by decide +kernel
theorem dX8_typeOf_8 : decode cX8_typeOf 8 = .ok (.invokevirtual 66, 3) := by decide +kernel
theorem dX8_typeOf_11 : decode cX8_typeOf 11 = .ok (.ifCond .ne 6, 3) := by decide +kernel
theorem dX8_typeOf_14 : decode cX8_typeOf 14 = .ok (.bipush (-2), 2) := by decide +kernel
theorem dX8_typeOf_16 : decode cX8_typeOf 16 = .ok (.ireturn, 1) := by decide +kernel
theorem dX8_typeOf_17 : decode cX8_typeOf 17 = .ok (.aload_n 0, 1) := by decide +kernel
theorem dX8_typeOf_18 : decode cX8_typeOf 18 = .ok (.getfield 12, 3) := by decide +kernel
theorem dX8_typeOf_21 : decode cX8_typeOf 21 = .ok (.getfield 56, 3) := by decide +kernel
theorem dX8_typeOf_24 : decode cX8_typeOf 24 = .ok (.getfield 70, 3) := by decide +kernel
theorem dX8_typeOf_27 : decode cX8_typeOf 27 = .ok (.iload_n 1, 1) := by decide +kernel
theorem dX8_typeOf_28 : decode cX8_typeOf 28 = .ok (.iaload, 1) := by decide +kernel
theorem dX8_typeOf_29 : decode cX8_typeOf 29 = .ok (.ireturn, 1) := by decide +kernel
theorem dX8_reset_0 : decode cX8_reset 0 = .ok (.aload_n 0, 1) := by decide +kernel
theorem dX8_reset_1 : decode cX8_reset 1 = .ok (.getfield 12, 3) := by decide +kernel
theorem dX8_reset_4 : decode cX8_reset 4 = .ok (.getfield 74, 3) := by decide +kernel
theorem dX8_reset_7 : decode cX8_reset 7 = .ok (.getfield 78, 3) := by decide +kernel
theorem dX8_reset_10 : decode cX8_reset 10 = .ok (.istore_n 1, 1) := by decide +kernel
theorem dX8_reset_11 : decode cX8_reset 11 = .ok (.aload_n 0, 1) := by decide +kernel
theorem dX8_reset_12 : decode cX8_reset 12 = .ok (.getfield 12, 3) := by decide +kernel
theorem dX8_reset_15 : decode cX8_reset 15 = .ok (.invokevirtual 83, 3) := by decide +kernel
theorem dX8_reset_18 : decode cX8_reset 18 = .ok (.iload_n 1, 1) := by decide +kernel
theorem dX8_reset_19 : decode cX8_reset 19 = .ok (.ireturn, 1) := by decide +kernel
theorem dX8_invokeRead_0 : decode cX8_invokeRead 0 = .ok (.aload_n 0, 1) := by decide +kernel
theorem dX8_invokeRead_1 : decode cX8_invokeRead 1 = .ok (.iconst 0, 1) := by decide +kernel
theorem dX8_invokeRead_2 : decode cX8_invokeRead 2 = .ok (.iload_n 1, 1) := by decide +kernel
theorem dX8_invokeRead_3 : decode cX8_invokeRead 3 = .ok (.iload_n 2, 1) := by decide +kernel
theorem dX8_invokeRead_4 : decode cX8_invokeRead 4 = .ok (.iconst 0, 1) := by decide +kernel
theorem dX8_invokeRead_5 : decode cX8_invokeRead 5 = .ok (.iconst 0, 1) := by decide +kernel
theorem dX8_invokeRead_6 : decode cX8_invokeRead 6 = .ok (.invokevirtual 86, 3) := by decide +kernel
theorem dX8_invokeRead_9 : decode cX8_invokeRead 9 = .ok (.ireturn, 1) := by decide +kernel
theorem dX8_invokeWrite_0 : decode cX8_invokeWrite 0 = .ok (.aload_n 0, 1) := by decide +kernel
theorem dX8_invokeWrite_1 : decode cX8_invokeWrite 1 = .ok (.iconst 1, 1) := by decide +kernel
theorem dX8_invokeWrite_2 : decode cX8_invokeWrite 2 = .ok (.iload_n 1, 1) := by decide +kernel
theorem dX8_invokeWrite_3 : decode cX8_invokeWrite 3 = .ok (.iload_n 2, 1) := by decide +kernel
theorem dX8_invokeWrite_4 : decode cX8_invokeWrite 4 = .ok (.iload_n 3, 1) := by decide +kernel
theorem dX8_invokeWrite_5 : decode cX8_invokeWrite 5 = .ok (.iconst 0, 1) := by decide +kernel
theorem dX8_invokeWrite_6 : decode cX8_invokeWrite 6 = .ok (.invokevirtual 86, 3) := by decide +kernel
theorem dX8_invokeWrite_9 : decode cX8_invokeWrite 9 = .ok (.ireturn, 1) := by decide +kernel
theorem dX8_invokeCompareAndSet_0 : decode cX8_invokeCompareAndSet 0 = .ok (.aload_n 0, 1) := by decide +kernel
theorem dX8_invokeCompareAndSet_1 : decode cX8_invokeCompareAndSet 1 = .ok (.iconst 2, 1) := by decide +kernel
theorem dX8_invokeCompareAndSet_2 : decode cX8_invokeCompareAndSet 2 = .ok (.iload_n 1, 1) := by decide +kernel
theorem dX8_invokeCompareAndSet_3 : decode cX8_invokeCompareAndSet 3 = .ok (.iload_n 2, 1) := by decide +kernel
theorem dX8_invokeCompareAndSet_4 : decode cX8_invokeCompareAndSet 4 = .ok (.iload_n 3, 1) := by decide +kernel
theorem dX8_invokeCompareAndSet_5 : decode cX8_invokeCompareAndSet 5 = .ok (.iload 4, 2) := by decide +kernel
theorem dX8_invokeCompareAndSet_7 : decode cX8_invokeCompareAndSet 7 = .ok (.invokevirtual 86, 3) := by decide +kernel
theorem dX8_invokeCompareAndSet_10 : decode cX8_invokeCompareAndSet 10 = .ok (.ireturn, 1) := by decide +kernel
theorem dX8_invokeGet_0 : decode cX8_invokeGet 0 = .ok (.aload_n 0, 1) := by decide +kernel
theorem dX8_invokeGet_1 : decode cX8_invokeGet 1 = .ok (.iconst 3, 1) := by decide +kernel
theorem dX8_invokeGet_2 : decode cX8_invokeGet 2 = .ok (.iload_n 1, 1) := by decide +kernel
theorem dX8_invokeGet_3 : decode cX8_invokeGet 3 = .ok (.iload_n 2, 1) := by decide +kernel
theorem dX8_invokeGet_4 : decode cX8_invokeGet 4 = .ok (.iconst 0, 1) := by decide +kernel
theorem dX8_invokeGet_5 : decode cX8_invokeGet 5 = .ok (.iconst 0, 1) := by decide +kernel
theorem dX8_invokeGet_6 : decode cX8_invokeGet 6 = .ok (.invokevirtual 86, 3) := by decide +kernel
theorem dX8_invokeGet_9 : decode cX8_invokeGet 9 = .ok (.ireturn, 1) := by decide +kernel
theorem dX8_invokeAdd_0 : decode cX8_invokeAdd 0 = .ok (.aload_n 0, 1) := by decide +kernel
theorem dX8_invokeAdd_1 : decode cX8_invokeAdd 1 = .ok (.iconst 4, 1) := by decide +kernel
theorem dX8_invokeAdd_2 : decode cX8_invokeAdd 2 = .ok (.iload_n 1, 1) := by decide +kernel
theorem dX8_invokeAdd_3 : decode cX8_invokeAdd 3 = .ok (.iload_n 2, 1) := by decide +kernel
theorem dX8_invokeAdd_4 : decode cX8_invokeAdd 4 = .ok (.iload_n 3, 1) := by decide +kernel
theorem dX8_invokeAdd_5 : decode cX8_invokeAdd 5 = .ok (.iconst 0, 1) := by decide +kernel
theorem dX8_invokeAdd_6 : decode cX8_invokeAdd 6 = .ok (.invokevirtual 86, 3) := by decide +kernel
theorem dX8_invokeAdd_9 : decode cX8_invokeAdd 9 = .ok (.ireturn, 1) := by decide +kernel
theorem dX8_invokeEnqueue_0 : decode cX8_invokeEnqueue 0 = .ok (.aload_n 0, 1) := by decide +kernel
theorem dX8_invokeEnqueue_1 : decode cX8_invokeEnqueue 1 = .ok (.iconst 5, 1) := by decide +kernel
theorem dX8_invokeEnqueue_2 : decode cX8_invokeEnqueue 2 = .ok (.iload_n 1, 1) := by decide +kernel
theorem dX8_invokeEnqueue_3 : decode cX8_invokeEnqueue 3 = .ok (.iload_n 2, 1) := by decide +kernel
theorem dX8_invokeEnqueue_4 : decode cX8_invokeEnqueue 4 = .ok (.iload_n 3, 1) := by decide +kernel
theorem dX8_invokeEnqueue_5 : decode cX8_invokeEnqueue 5 = .ok (.iconst 0, 1) := by decide +kernel
theorem dX8_invokeEnqueue_6 : decode cX8_invokeEnqueue 6 = .ok (.invokevirtual 86, 3) := by decide +kernel
theorem dX8_invokeEnqueue_9 : decode cX8_invokeEnqueue 9 = .ok (.ireturn, 1) := by decide +kernel
theorem dX8_invokeDequeue_0 : decode cX8_invokeDequeue 0 = .ok (.aload_n 0, 1) := by decide +kernel
theorem dX8_invokeDequeue_1 : decode cX8_invokeDequeue 1 = .ok (.bipush 6, 2) := by decide +kernel
theorem dX8_invokeDequeue_3 : decode cX8_invokeDequeue 3 = .ok (.iload_n 1, 1) := by decide +kernel
theorem dX8_invokeDequeue_4 : decode cX8_invokeDequeue 4 = .ok (.iload_n 2, 1) := by decide +kernel
theorem dX8_invokeDequeue_5 : decode cX8_invokeDequeue 5 = .ok (.iconst 0, 1) := by decide +kernel
theorem dX8_invokeDequeue_6 : decode cX8_invokeDequeue 6 = .ok (.iconst 0, 1) := by decide +kernel
theorem dX8_invokeDequeue_7 : decode cX8_invokeDequeue 7 = .ok (.invokevirtual 86, 3) := by decide +kernel
theorem dX8_invokeDequeue_10 : decode cX8_invokeDequeue 10 = .ok (.ireturn, 1) := by decide +kernel
theorem dX8_invokeInsert_0 : decode cX8_invokeInsert 0 = .ok (.aload_n 0, 1) := by decide +kernel
theorem dX8_invokeInsert_1 : decode cX8_invokeInsert 1 = .ok (.bipush 7, 2) := by decide +kernel
theorem dX8_invokeInsert_3 : decode cX8_invokeInsert 3 = .ok (.iload_n 1, 1) := by decide +kernel
theorem dX8_invokeInsert_4 : decode cX8_invokeInsert 4 = .ok (.iload_n 2, 1) := by decide +kernel
theorem dX8_invokeInsert_5 : decode cX8_invokeInsert 5 = .ok (.iload_n 3, 1) := by decide +kernel
theorem dX8_invokeInsert_6 : decode cX8_invokeInsert 6 = .ok (.iconst 0, 1) := by decide +kernel
theorem dX8_invokeInsert_7 : decode cX8_invokeInsert 7 = .ok (.invokevirtual 86, 3) := by decide +kernel
theorem dX8_invokeInsert_10 : decode cX8_invokeInsert 10 = .ok (.ireturn, 1) := by decide +kernel
theorem dX8_invokeRemove_0 : decode cX8_invokeRemove 0 = .ok (.aload_n 0, 1) := by decide +kernel
theorem dX8_invokeRemove_1 : decode cX8_invokeRemove 1 = .ok (.bipush 8, 2) := by decide +kernel
theorem dX8_invokeRemove_3 : decode cX8_invokeRemove 3 = .ok (.iload_n 1, 1) := by decide +kernel
theorem dX8_invokeRemove_4 : decode cX8_invokeRemove 4 = .ok (.iload_n 2, 1) := by decide +kernel
theorem dX8_invokeRemove_5 : decode cX8_invokeRemove 5 = .ok (.iload_n 3, 1) := by decide +kernel
theorem dX8_invokeRemove_6 : decode cX8_invokeRemove 6 = .ok (.iconst 0, 1) := by decide +kernel
theorem dX8_invokeRemove_7 : decode cX8_invokeRemove 7 = .ok (.invokevirtual 86, 3) := by decide +kernel
theorem dX8_invokeRemove_10 : decode cX8_invokeRemove 10 = .ok (.ireturn, 1) := by decide +kernel
theorem dX8_invokeContains_0 : decode cX8_invokeContains 0 = .ok (.aload_n 0, 1) := by decide +kernel
theorem dX8_invokeContains_1 : decode cX8_invokeContains 1 = .ok (.bipush 9, 2) := by decide +kernel
theorem dX8_invokeContains_3 : decode cX8_invokeContains 3 = .ok (.iload_n 1, 1) := by decide +kernel
theorem dX8_invokeContains_4 : decode cX8_invokeContains 4 = .ok (.iload_n 2, 1) := by decide +kernel
theorem dX8_invokeContains_5 : decode cX8_invokeContains 5 = .ok (.iload_n 3, 1) := by decide +kernel
theorem dX8_invokeContains_6 : decode cX8_invokeContains 6 = .ok (.iconst 0, 1) := by decide +kernel
theorem dX8_invokeContains_7 : decode cX8_invokeContains 7 = .ok (.invokevirtual 86, 3) := by decide +kernel
theorem dX8_invokeContains_10 : decode cX8_invokeContains 10 = .ok (.ireturn, 1) := by decide +kernel
theorem dX8_respond_0 : decode cX8_respond 0 = .ok (.aload_n 0, 1) := by decide +kernel
theorem dX8_respond_1 : decode cX8_respond 1 = .ok (.iload_n 1, 1) := by decide +kernel
theorem dX8_respond_2 : decode cX8_respond 2 = .ok (.iload_n 2, 1) := by decide +kernel
theorem dX8_respond_3 : decode cX8_respond 3 = .ok (.invokevirtual 90, 3) := by decide +kernel
theorem dX8_respond_6 : decode cX8_respond 6 = .ok (.istore_n 3, 1) := by decide +kernel
theorem dX8_respond_7 : decode cX8_respond 7 = .ok (.iload_n 3, 1) := by decide +kernel
theorem dX8_respond_8 : decode cX8_respond 8 = .ok (.ifCond .eq 5, 3) := by decide +kernel
theorem dX8_respond_11 : decode cX8_respond 11 = .ok (.iload_n 3, 1) := by decide +kernel
theorem dX8_respond_12 : decode cX8_respond 12 = .ok (.ireturn, 1) := by decide +kernel
theorem dX8_respond_13 : decode cX8_respond 13 = .ok (.aload_n 0, 1) := by decide +kernel
theorem dX8_respond_14 : decode cX8_respond 14 = .ok (.getfield 12, 3) := by decide +kernel
theorem dX8_respond_17 : decode cX8_respond 17 = .ok (.getfield 74, 3) := by decide +kernel
theorem dX8_respond_20 : decode cX8_respond 20 = .ok (.getfield 93, 3) := by decide +kernel
theorem dX8_respond_23 : decode cX8_respond 23 = .ok (.iload_n 1, 1) := by decide +kernel
theorem dX8_respond_24 : decode cX8_respond 24 = .ok (.iaload, 1) := by decide +kernel
theorem dX8_respond_25 : decode cX8_respond 25 = .ok (.istore 4, 2) := by decide +kernel
theorem dX8_respond_27 : decode cX8_respond 27 = .ok (.aload_n 0, 1) := by decide +kernel
theorem dX8_respond_28 : decode cX8_respond 28 = .ok (.getfield 12, 3) := by decide +kernel
theorem dX8_respond_31 : decode cX8_respond 31 = .ok (.getfield 74, 3) := by decide +kernel
theorem dX8_respond_34 : decode cX8_respond 34 = .ok (.iload_n 1, 1) := by decide +kernel
theorem dX8_respond_35 : decode cX8_respond 35 = .ok (.iload_n 2, 1) := by decide +kernel
theorem dX8_respond_36 : decode cX8_respond 36 = .ok (.invokevirtual 96, 3) := by decide +kernel
theorem dX8_respond_39 : decode cX8_respond 39 = .ok (.aload_n 0, 1) := by decide +kernel
theorem dX8_respond_40 : decode cX8_respond 40 = .ok (.getfield 12, 3) := by decide +kernel
theorem dX8_respond_43 : decode cX8_respond 43 = .ok (.getfield 100, 3) := by decide +kernel
theorem dX8_respond_46 : decode cX8_respond 46 = .ok (.invokevirtual 104, 3) := by decide +kernel
theorem dX8_respond_49 : decode cX8_respond 49 = .ok (.iload 4, 2) := by decide +kernel
theorem dX8_respond_51 : decode cX8_respond 51 = .ok (.ireturn, 1) := by decide +kernel
theorem dX8_crash_0 : decode cX8_crash 0 = .ok (.iload_n 1, 1) := by decide +kernel
theorem dX8_crash_1 : decode cX8_crash 1 = .ok (.invokestatic 109, 3) := by decide +kernel
theorem dX8_crash_4 : decode cX8_crash 4 = .ok (.ifCond .ne 5, 3) := by decide +kernel
theorem dX8_crash_7 : decode cX8_crash 7 = .ok (.iconst (-1), 1) := by decide +kernel
theorem dX8_crash_8 : decode cX8_crash 8 = .ok (.ireturn, 1) := by decide +kernel
theorem dX8_crash_9 : decode cX8_crash 9 = .ok (.aload_n 0, 1) := by decide +kernel
theorem dX8_crash_10 : decode cX8_crash 10 = .ok (.getfield 12, 3) := by decide +kernel
theorem dX8_crash_13 : decode cX8_crash 13 = .ok (.getfield 74, 3) := by decide +kernel
theorem dX8_crash_16 : decode cX8_crash 16 = .ok (.getfield 112, 3) := by decide +kernel
theorem dX8_crash_19 : decode cX8_crash 19 = .ok (.iload_n 1, 1) := by decide +kernel
theorem dX8_crash_20 : decode cX8_crash 20 = .ok (.baload, 1) := by decide +kernel
theorem dX8_crash_21 : decode cX8_crash 21 = .ok (.ifCond .eq 6, 3) := by decide +kernel
theorem dX8_crash_24 : decode cX8_crash 24 = .ok (.bipush (-5), 2) := by decide +kernel
theorem dX8_crash_26 : decode cX8_crash 26 = .ok (.ireturn, 1) := by decide +kernel
theorem dX8_crash_27 : decode cX8_crash 27 = .ok (.aload_n 0, 1) := by decide +kernel
theorem dX8_crash_28 : decode cX8_crash 28 = .ok (.getfield 12, 3) := by decide +kernel
theorem dX8_crash_31 : decode cX8_crash 31 = .ok (.getfield 74, 3) := by decide +kernel
theorem dX8_crash_34 : decode cX8_crash 34 = .ok (.getfield 78, 3) := by decide +kernel
theorem dX8_crash_37 : decode cX8_crash 37 = .ok (.istore_n 2, 1) := by decide +kernel
theorem dX8_crash_38 : decode cX8_crash 38 = .ok (.aload_n 0, 1) := by decide +kernel
theorem dX8_crash_39 : decode cX8_crash 39 = .ok (.getfield 12, 3) := by decide +kernel
theorem dX8_crash_42 : decode cX8_crash 42 = .ok (.getfield 74, 3) := by decide +kernel
theorem dX8_crash_45 : decode cX8_crash 45 = .ok (.iload_n 1, 1) := by decide +kernel
theorem dX8_crash_46 : decode cX8_crash 46 = .ok (.invokevirtual 116, 3) := by decide +kernel
theorem dX8_crash_49 : decode cX8_crash 49 = .ok (.aload_n 0, 1) := by decide +kernel
theorem dX8_crash_50 : decode cX8_crash 50 = .ok (.getfield 12, 3) := by decide +kernel
theorem dX8_crash_53 : decode cX8_crash 53 = .ok (.getfield 100, 3) := by decide +kernel
theorem dX8_crash_56 : decode cX8_crash 56 = .ok (.invokevirtual 104, 3) := by decide +kernel
theorem dX8_crash_59 : decode cX8_crash 59 = .ok (.iload_n 2, 1) := by decide +kernel
theorem dX8_crash_60 : decode cX8_crash 60 = .ok (.ireturn, 1) := by decide +kernel
theorem dX8_undo_0 : decode cX8_undo 0 = .ok (.aload_n 0, 1) := by decide +kernel
theorem dX8_undo_1 : decode cX8_undo 1 = .ok (.getfield 12, 3) := by decide +kernel
theorem dX8_undo_4 : decode cX8_undo 4 = .ok (.getfield 74, 3) := by decide +kernel
theorem dX8_undo_7 : decode cX8_undo 7 = .ok (.getfield 78, 3) := by decide +kernel
theorem dX8_undo_10 : decode cX8_undo 10 = .ok (.ifCond .ne 6, 3) := by decide +kernel
theorem dX8_undo_13 : decode cX8_undo 13 = .ok (.bipush (-11), 2) := by decide +kernel
theorem dX8_undo_15 : decode cX8_undo 15 = .ok (.ireturn, 1) := by decide +kernel
theorem dX8_undo_16 : decode cX8_undo 16 = .ok (.aload_n 0, 1) := by decide +kernel
theorem dX8_undo_17 : decode cX8_undo 17 = .ok (.getfield 12, 3) := by decide +kernel
theorem dX8_undo_20 : decode cX8_undo 20 = .ok (.getfield 74, 3) := by decide +kernel
theorem dX8_undo_23 : decode cX8_undo 23 = .ok (.invokevirtual 120, 3) := by decide +kernel
theorem dX8_undo_26 : decode cX8_undo 26 = .ok (.aload_n 0, 1) := by decide +kernel
theorem dX8_undo_27 : decode cX8_undo 27 = .ok (.getfield 12, 3) := by decide +kernel
theorem dX8_undo_30 : decode cX8_undo 30 = .ok (.getfield 100, 3) := by decide +kernel
theorem dX8_undo_33 : decode cX8_undo 33 = .ok (.invokevirtual 104, 3) := by decide +kernel
theorem dX8_undo_36 : decode cX8_undo 36 = .ok (.aload_n 0, 1) := by decide +kernel
theorem dX8_undo_37 : decode cX8_undo 37 = .ok (.getfield 12, 3) := by decide +kernel
theorem dX8_undo_40 : decode cX8_undo 40 = .ok (.getfield 74, 3) := by decide +kernel
theorem dX8_undo_43 : decode cX8_undo 43 = .ok (.getfield 78, 3) := by decide +kernel
theorem dX8_undo_46 : decode cX8_undo 46 = .ok (.ireturn, 1) := by decide +kernel
theorem dX8_eventCount_0 : decode cX8_eventCount 0 = .ok (.aload_n 0, 1) := by decide +kernel
theorem dX8_eventCount_1 : decode cX8_eventCount 1 = .ok (.getfield 12, 3) := by decide +kernel
theorem dX8_eventCount_4 : decode cX8_eventCount 4 = .ok (.getfield 74, 3) := by decide +kernel
theorem dX8_eventCount_7 : decode cX8_eventCount 7 = .ok (.getfield 78, 3) := by decide +kernel
theorem dX8_eventCount_10 : decode cX8_eventCount 10 = .ok (.ireturn, 1) := by decide +kernel
theorem dX8_operationCount_0 : decode cX8_operationCount 0 = .ok (.aload_n 0, 1) := by decide +kernel
theorem dX8_operationCount_1 : decode cX8_operationCount 1 = .ok (.getfield 12, 3) := by decide +kernel
theorem dX8_operationCount_4 : decode cX8_operationCount 4 = .ok (.getfield 74, 3) := by decide +kernel
theorem dX8_operationCount_7 : decode cX8_operationCount 7 = .ok (.getfield 123, 3) := by decide +kernel
theorem dX8_operationCount_10 : decode cX8_operationCount 10 = .ok (.ireturn, 1) := by decide +kernel
theorem dX8_kindOf_0 : decode cX8_kindOf 0 = .ok (.aload_n 0, 1) := by decide +kernel
theorem dX8_kindOf_1 : decode cX8_kindOf 1 = .ok (.getfield 12, 3) := by decide +kernel
theorem dX8_kindOf_4 : decode cX8_kindOf 4 = .ok (.getfield 74, 3) := by decide +kernel
theorem dX8_kindOf_7 : decode cX8_kindOf 7 = .ok (.iload_n 1, 1) := by decide +kernel
theorem dX8_kindOf_8 : decode cX8_kindOf 8 = .ok (.invokevirtual 126, 3) := by decide +kernel
theorem dX8_kindOf_11 : decode cX8_kindOf 11 = .ok (.ifCond .ne 6, 3) := by decide +kernel
theorem dX8_kindOf_14 : decode cX8_kindOf 14 = .ok (.bipush (-9), 2) := by decide +kernel
theorem dX8_kindOf_16 : decode cX8_kindOf 16 = .ok (.ireturn, 1) := by decide +kernel
theorem dX8_kindOf_17 : decode cX8_kindOf 17 = .ok (.aload_n 0, 1) := by decide +kernel
theorem dX8_kindOf_18 : decode cX8_kindOf 18 = .ok (.getfield 12, 3) := by decide +kernel
theorem dX8_kindOf_21 : decode cX8_kindOf 21 = .ok (.getfield 74, 3) := by decide +kernel
theorem dX8_kindOf_24 : decode cX8_kindOf 24 = .ok (.getfield 127, 3) := by decide +kernel
theorem dX8_kindOf_27 : decode cX8_kindOf 27 = .ok (.iload_n 1, 1) := by decide +kernel
theorem dX8_kindOf_28 : decode cX8_kindOf 28 = .ok (.iaload, 1) := by decide +kernel
theorem dX8_kindOf_29 : decode cX8_kindOf 29 = .ok (.ireturn, 1) := by decide +kernel
theorem dX8_threadOf_0 : decode cX8_threadOf 0 = .ok (.aload_n 0, 1) := by decide +kernel
theorem dX8_threadOf_1 : decode cX8_threadOf 1 = .ok (.getfield 12, 3) := by decide +kernel
theorem dX8_threadOf_4 : decode cX8_threadOf 4 = .ok (.getfield 74, 3) := by decide +kernel
theorem dX8_threadOf_7 : decode cX8_threadOf 7 = .ok (.iload_n 1, 1) := by decide +kernel
theorem dX8_threadOf_8 : decode cX8_threadOf 8 = .ok (.invokevirtual 126, 3) := by decide +kernel
theorem dX8_threadOf_11 : decode cX8_threadOf 11 = .ok (.ifCond .ne 6, 3) := by decide +kernel
theorem dX8_threadOf_14 : decode cX8_threadOf 14 = .ok (.bipush (-9), 2) := by decide +kernel
theorem dX8_threadOf_16 : decode cX8_threadOf 16 = .ok (.ireturn, 1) := by decide +kernel
theorem dX8_threadOf_17 : decode cX8_threadOf 17 = .ok (.aload_n 0, 1) := by decide +kernel
theorem dX8_threadOf_18 : decode cX8_threadOf 18 = .ok (.getfield 12, 3) := by decide +kernel
theorem dX8_threadOf_21 : decode cX8_threadOf 21 = .ok (.getfield 74, 3) := by decide +kernel
theorem dX8_threadOf_24 : decode cX8_threadOf 24 = .ok (.getfield 130, 3) := by decide +kernel
theorem dX8_threadOf_27 : decode cX8_threadOf 27 = .ok (.iload_n 1, 1) := by decide +kernel
theorem dX8_threadOf_28 : decode cX8_threadOf 28 = .ok (.iaload, 1) := by decide +kernel
theorem dX8_threadOf_29 : decode cX8_threadOf 29 = .ok (.ireturn, 1) := by decide +kernel
theorem dX8_objectOf_0 : decode cX8_objectOf 0 = .ok (.aload_n 0, 1) := by decide +kernel
theorem dX8_objectOf_1 : decode cX8_objectOf 1 = .ok (.getfield 12, 3) := by decide +kernel
theorem dX8_objectOf_4 : decode cX8_objectOf 4 = .ok (.getfield 74, 3) := by decide +kernel
theorem dX8_objectOf_7 : decode cX8_objectOf 7 = .ok (.iload_n 1, 1) := by decide +kernel
theorem dX8_objectOf_8 : decode cX8_objectOf 8 = .ok (.invokevirtual 126, 3) := by decide +kernel
theorem dX8_objectOf_11 : decode cX8_objectOf 11 = .ok (.ifCond .ne 6, 3) := by decide +kernel
theorem dX8_objectOf_14 : decode cX8_objectOf 14 = .ok (.bipush (-9), 2) := by decide +kernel
theorem dX8_objectOf_16 : decode cX8_objectOf 16 = .ok (.ireturn, 1) := by decide +kernel
theorem dX8_objectOf_17 : decode cX8_objectOf 17 = .ok (.aload_n 0, 1) := by decide +kernel
theorem dX8_objectOf_18 : decode cX8_objectOf 18 = .ok (.getfield 12, 3) := by decide +kernel
theorem dX8_objectOf_21 : decode cX8_objectOf 21 = .ok (.getfield 74, 3) := by decide +kernel
theorem dX8_objectOf_24 : decode cX8_objectOf 24 = .ok (.getfield 133, 3) := by decide +kernel
theorem dX8_objectOf_27 : decode cX8_objectOf 27 = .ok (.iload_n 1, 1) := by decide +kernel
theorem dX8_objectOf_28 : decode cX8_objectOf 28 = .ok (.iaload, 1) := by decide +kernel
theorem dX8_objectOf_29 : decode cX8_objectOf 29 = .ok (.ireturn, 1) := by decide +kernel
theorem dX8_invocationTime_0 : decode cX8_invocationTime 0 = .ok (.aload_n 0, 1) := by decide +kernel
theorem dX8_invocationTime_1 : decode cX8_invocationTime 1 = .ok (.getfield 12, 3) := by decide +kernel
theorem dX8_invocationTime_4 : decode cX8_invocationTime 4 = .ok (.getfield 74, 3) := by decide +kernel
theorem dX8_invocationTime_7 : decode cX8_invocationTime 7 = .ok (.iload_n 1, 1) := by decide +kernel
theorem dX8_invocationTime_8 : decode cX8_invocationTime 8 = .ok (.invokevirtual 126, 3) := by decide +kernel
theorem dX8_invocationTime_11 : decode cX8_invocationTime 11 = .ok (.ifCond .ne 6, 3) := by decide +kernel
theorem dX8_invocationTime_14 : decode cX8_invocationTime 14 = .ok (.bipush (-9), 2) := by decide +kernel
theorem dX8_invocationTime_16 : decode cX8_invocationTime 16 = .ok (.ireturn, 1) := by decide +kernel
theorem dX8_invocationTime_17 : decode cX8_invocationTime 17 = .ok (.aload_n 0, 1) := by decide +kernel
theorem dX8_invocationTime_18 : decode cX8_invocationTime 18 = .ok (.getfield 12, 3) := by decide +kernel
theorem dX8_invocationTime_21 : decode cX8_invocationTime 21 = .ok (.getfield 74, 3) := by decide +kernel
theorem dX8_invocationTime_24 : decode cX8_invocationTime 24 = .ok (.getfield 135, 3) := by decide +kernel
theorem dX8_invocationTime_27 : decode cX8_invocationTime 27 = .ok (.iload_n 1, 1) := by decide +kernel
theorem dX8_invocationTime_28 : decode cX8_invocationTime 28 = .ok (.iaload, 1) := by decide +kernel
theorem dX8_invocationTime_29 : decode cX8_invocationTime 29 = .ok (.ireturn, 1) := by decide +kernel
theorem dX8_responseTime_0 : decode cX8_responseTime 0 = .ok (.aload_n 0, 1) := by decide +kernel
theorem dX8_responseTime_1 : decode cX8_responseTime 1 = .ok (.getfield 12, 3) := by decide +kernel
theorem dX8_responseTime_4 : decode cX8_responseTime 4 = .ok (.getfield 74, 3) := by decide +kernel
theorem dX8_responseTime_7 : decode cX8_responseTime 7 = .ok (.iload_n 1, 1) := by decide +kernel
theorem dX8_responseTime_8 : decode cX8_responseTime 8 = .ok (.invokevirtual 126, 3) := by decide +kernel
theorem dX8_responseTime_11 : decode cX8_responseTime 11 = .ok (.ifCond .ne 6, 3) := by decide +kernel
theorem dX8_responseTime_14 : decode cX8_responseTime 14 = .ok (.bipush (-9), 2) := by decide +kernel
theorem dX8_responseTime_16 : decode cX8_responseTime 16 = .ok (.ireturn, 1) := by decide +kernel
theorem dX8_responseTime_17 : decode cX8_responseTime 17 = .ok (.aload_n 0, 1) := by decide +kernel
theorem dX8_responseTime_18 : decode cX8_responseTime 18 = .ok (.getfield 12, 3) := by decide +kernel
theorem dX8_responseTime_21 : decode cX8_responseTime 21 = .ok (.getfield 74, 3) := by decide +kernel
theorem dX8_responseTime_24 : decode cX8_responseTime 24 = .ok (.iload_n 1, 1) := by decide +kernel
theorem dX8_responseTime_25 : decode cX8_responseTime 25 = .ok (.invokevirtual 138, 3) := by decide +kernel
theorem dX8_responseTime_28 : decode cX8_responseTime 28 = .ok (.ifCond .eq 6, 3) := by decide +kernel
theorem dX8_responseTime_31 : decode cX8_responseTime 31 = .ok (.bipush (-10), 2) := by decide +kernel
theorem dX8_responseTime_33 : decode cX8_responseTime 33 = .ok (.ireturn, 1) := by decide +kernel
theorem dX8_responseTime_34 : decode cX8_responseTime 34 = .ok (.aload_n 0, 1) := by decide +kernel
theorem dX8_responseTime_35 : decode cX8_responseTime 35 = .ok (.getfield 12, 3) := by decide +kernel
theorem dX8_responseTime_38 : decode cX8_responseTime 38 = .ok (.getfield 74, 3) := by decide +kernel
theorem dX8_responseTime_41 : decode cX8_responseTime 41 = .ok (.getfield 141, 3) := by decide +kernel
theorem dX8_responseTime_44 : decode cX8_responseTime 44 = .ok (.iload_n 1, 1) := by decide +kernel
theorem dX8_responseTime_45 : decode cX8_responseTime 45 = .ok (.iaload, 1) := by decide +kernel
theorem dX8_responseTime_46 : decode cX8_responseTime 46 = .ok (.ireturn, 1) := by decide +kernel
theorem dX8_resultOf_0 : decode cX8_resultOf 0 = .ok (.aload_n 0, 1) := by decide +kernel
theorem dX8_resultOf_1 : decode cX8_resultOf 1 = .ok (.getfield 12, 3) := by decide +kernel
theorem dX8_resultOf_4 : decode cX8_resultOf 4 = .ok (.getfield 74, 3) := by decide +kernel
theorem dX8_resultOf_7 : decode cX8_resultOf 7 = .ok (.iload_n 1, 1) := by decide +kernel
theorem dX8_resultOf_8 : decode cX8_resultOf 8 = .ok (.invokevirtual 126, 3) := by decide +kernel
theorem dX8_resultOf_11 : decode cX8_resultOf 11 = .ok (.ifCond .ne 6, 3) := by decide +kernel
theorem dX8_resultOf_14 : decode cX8_resultOf 14 = .ok (.bipush (-9), 2) := by decide +kernel
theorem dX8_resultOf_16 : decode cX8_resultOf 16 = .ok (.ireturn, 1) := by decide +kernel
theorem dX8_resultOf_17 : decode cX8_resultOf 17 = .ok (.aload_n 0, 1) := by decide +kernel
theorem dX8_resultOf_18 : decode cX8_resultOf 18 = .ok (.getfield 12, 3) := by decide +kernel
theorem dX8_resultOf_21 : decode cX8_resultOf 21 = .ok (.getfield 74, 3) := by decide +kernel
theorem dX8_resultOf_24 : decode cX8_resultOf 24 = .ok (.iload_n 1, 1) := by decide +kernel
theorem dX8_resultOf_25 : decode cX8_resultOf 25 = .ok (.invokevirtual 138, 3) := by decide +kernel
theorem dX8_resultOf_28 : decode cX8_resultOf 28 = .ok (.ifCond .eq 6, 3) := by decide +kernel
theorem dX8_resultOf_31 : decode cX8_resultOf 31 = .ok (.bipush (-10), 2) := by decide +kernel
theorem dX8_resultOf_33 : decode cX8_resultOf 33 = .ok (.ireturn, 1) := by decide +kernel
theorem dX8_resultOf_34 : decode cX8_resultOf 34 = .ok (.aload_n 0, 1) := by decide +kernel
theorem dX8_resultOf_35 : decode cX8_resultOf 35 = .ok (.getfield 12, 3) := by decide +kernel
theorem dX8_resultOf_38 : decode cX8_resultOf 38 = .ok (.getfield 74, 3) := by decide +kernel
theorem dX8_resultOf_41 : decode cX8_resultOf 41 = .ok (.getfield 144, 3) := by decide +kernel
theorem dX8_resultOf_44 : decode cX8_resultOf 44 = .ok (.iload_n 1, 1) := by decide +kernel
theorem dX8_resultOf_45 : decode cX8_resultOf 45 = .ok (.iaload, 1) := by decide +kernel
theorem dX8_resultOf_46 : decode cX8_resultOf 46 = .ok (.sipush 1000, 3) := by decide +kernel
theorem dX8_resultOf_49 : decode cX8_resultOf 49 = .ok (.iadd, 1) := by decide +kernel
theorem dX8_resultOf_50 : decode cX8_resultOf 50 = .ok (.ireturn, 1) := by decide +kernel
theorem dX8_precedes_0 : decode cX8_precedes 0 = .ok (.aload_n 0, 1) := by decide +kernel
theorem dX8_precedes_1 : decode cX8_precedes 1 = .ok (.getfield 12, 3) := by decide +kernel
theorem dX8_precedes_4 : decode cX8_precedes 4 = .ok (.getfield 74, 3) := by decide +kernel
theorem dX8_precedes_7 : decode cX8_precedes 7 = .ok (.iload_n 1, 1) := by decide +kernel
theorem dX8_precedes_8 : decode cX8_precedes 8 = .ok (.invokevirtual 126, 3) := by decide +kernel
theorem dX8_precedes_11 : decode cX8_precedes 11 = .ok (.ifCond .eq 17, 3) := by decide +kernel
theorem dX8_precedes_14 : decode cX8_precedes 14 = .ok (.aload_n 0, 1) := by decide +kernel
theorem dX8_precedes_15 : decode cX8_precedes 15 = .ok (.getfield 12, 3) := by decide +kernel
theorem dX8_precedes_18 : decode cX8_precedes 18 = .ok (.getfield 74, 3) := by decide +kernel
theorem dX8_precedes_21 : decode cX8_precedes 21 = .ok (.iload_n 2, 1) := by decide +kernel
theorem dX8_precedes_22 : decode cX8_precedes 22 = .ok (.invokevirtual 126, 3) := by decide +kernel
theorem dX8_precedes_25 : decode cX8_precedes 25 = .ok (.ifCond .ne 6, 3) := by decide +kernel
theorem dX8_precedes_28 : decode cX8_precedes 28 = .ok (.bipush (-9), 2) := by decide +kernel
theorem dX8_precedes_30 : decode cX8_precedes 30 = .ok (.ireturn, 1) := by decide +kernel
theorem dX8_precedes_31 : decode cX8_precedes 31 = .ok (.aload_n 0, 1) := by decide +kernel
theorem dX8_precedes_32 : decode cX8_precedes 32 = .ok (.getfield 12, 3) := by decide +kernel
theorem dX8_precedes_35 : decode cX8_precedes 35 = .ok (.getfield 74, 3) := by decide +kernel
theorem dX8_precedes_38 : decode cX8_precedes 38 = .ok (.iload_n 1, 1) := by decide +kernel
theorem dX8_precedes_39 : decode cX8_precedes 39 = .ok (.iload_n 2, 1) := by decide +kernel
theorem dX8_precedes_40 : decode cX8_precedes 40 = .ok (.invokevirtual 147, 3) := by decide +kernel
theorem dX8_precedes_43 : decode cX8_precedes 43 = .ok (.invokestatic 151, 3) := by decide +kernel
theorem dX8_precedes_46 : decode cX8_precedes 46 = .ok (.ireturn, 1) := by decide +kernel
theorem dX8_maxPending_0 : decode cX8_maxPending 0 = .ok (.aload_n 0, 1) := by decide +kernel
theorem dX8_maxPending_1 : decode cX8_maxPending 1 = .ok (.getfield 12, 3) := by decide +kernel
theorem dX8_maxPending_4 : decode cX8_maxPending 4 = .ok (.getfield 74, 3) := by decide +kernel
theorem dX8_maxPending_7 : decode cX8_maxPending 7 = .ok (.invokevirtual 155, 3) := by decide +kernel
theorem dX8_maxPending_10 : decode cX8_maxPending 10 = .ok (.ireturn, 1) := by decide +kernel
theorem dX8_longestChain_0 : decode cX8_longestChain 0 = .ok (.aload_n 0, 1) := by decide +kernel
theorem dX8_longestChain_1 : decode cX8_longestChain 1 = .ok (.getfield 12, 3) := by decide +kernel
theorem dX8_longestChain_4 : decode cX8_longestChain 4 = .ok (.getfield 74, 3) := by decide +kernel
theorem dX8_longestChain_7 : decode cX8_longestChain 7 = .ok (.invokevirtual 159, 3) := by decide +kernel
theorem dX8_longestChain_10 : decode cX8_longestChain 10 = .ok (.ireturn, 1) := by decide +kernel
theorem dX8_isLinearizable_0 : decode cX8_isLinearizable 0 = .ok (.aload_n 0, 1) := by decide +kernel
theorem dX8_isLinearizable_1 : decode cX8_isLinearizable 1 = .ok (.aload_n 0, 1) := by decide +kernel
theorem dX8_isLinearizable_2 : decode cX8_isLinearizable 2 = .ok (.getfield 12, 3) := by decide +kernel
theorem dX8_isLinearizable_5 : decode cX8_isLinearizable 5 = .ok (.getfield 74, 3) := by decide +kernel
theorem dX8_isLinearizable_8 : decode cX8_isLinearizable 8 = .ok (.getfield 78, 3) := by decide +kernel
theorem dX8_isLinearizable_11 : decode cX8_isLinearizable 11 = .ok (.invokevirtual 162, 3) := by decide +kernel
theorem dX8_isLinearizable_14 : decode cX8_isLinearizable 14 = .ok (.invokestatic 151, 3) := by decide +kernel
theorem dX8_isLinearizable_17 : decode cX8_isLinearizable 17 = .ok (.ireturn, 1) := by decide +kernel
theorem dX8_isObjectLinearizable_0 : decode cX8_isObjectLinearizable 0 = .ok (.aload_n 0, 1) := by decide +kernel
theorem dX8_isObjectLinearizable_1 : decode cX8_isObjectLinearizable 1 = .ok (.getfield 12, 3) := by decide +kernel
theorem dX8_isObjectLinearizable_4 : decode cX8_isObjectLinearizable 4 = .ok (.getfield 56, 3) := by decide +kernel
theorem dX8_isObjectLinearizable_7 : decode cX8_isObjectLinearizable 7 = .ok (.iload_n 1, 1) := by decide +kernel
theorem dX8_isObjectLinearizable_8 : decode cX8_isObjectLinearizable 8 = .ok (.invokevirtual 66, 3) := by decide +kernel
theorem dX8_isObjectLinearizable_11 : decode cX8_isObjectLinearizable 11 = .ok (.ifCond .ne 6, 3) := by decide +kernel
theorem dX8_isObjectLinearizable_14 : decode cX8_isObjectLinearizable 14 = .ok (.bipush (-2), 2) := by decide +kernel
theorem dX8_isObjectLinearizable_16 : decode cX8_isObjectLinearizable 16 = .ok (.ireturn, 1) := by decide +kernel
theorem dX8_isObjectLinearizable_17 : decode cX8_isObjectLinearizable 17 = .ok (.aload_n 0, 1) := by decide +kernel
theorem dX8_isObjectLinearizable_18 : decode cX8_isObjectLinearizable 18 = .ok (.getfield 24, 3) := by decide +kernel
theorem dX8_isObjectLinearizable_21 : decode cX8_isObjectLinearizable 21 = .ok (.aload_n 0, 1) := by decide +kernel
theorem dX8_isObjectLinearizable_22 : decode cX8_isObjectLinearizable 22 = .ok (.getfield 12, 3) := by decide +kernel
theorem dX8_isObjectLinearizable_25 : decode cX8_isObjectLinearizable 25 = .ok (.getfield 74, 3) := by decide +kernel
theorem dX8_isObjectLinearizable_28 : decode cX8_isObjectLinearizable 28 = .ok (.getfield 78, 3) := by decide +kernel
theorem dX8_isObjectLinearizable_31 : decode cX8_isObjectLinearizable 31 = .ok (.iload_n 1, 1) := by decide +kernel
theorem dX8_isObjectLinearizable_32 : decode cX8_isObjectLinearizable 32 = .ok (.invokevirtual 165, 3) := by decide +kernel
theorem dX8_isObjectLinearizable_35 : decode cX8_isObjectLinearizable 35 = .ok (.aload_n 0, 1) := by decide +kernel
theorem dX8_isObjectLinearizable_36 : decode cX8_isObjectLinearizable 36 = .ok (.getfield 24, 3) := by decide +kernel
theorem dX8_isObjectLinearizable_39 : decode cX8_isObjectLinearizable 39 = .ok (.invokevirtual 168, 3) := by decide +kernel
theorem dX8_isObjectLinearizable_42 : decode cX8_isObjectLinearizable 42 = .ok (.aload_n 0, 1) := by decide +kernel
theorem dX8_isObjectLinearizable_43 : decode cX8_isObjectLinearizable 43 = .ok (.getfield 24, 3) := by decide +kernel
theorem dX8_isObjectLinearizable_46 : decode cX8_isObjectLinearizable 46 = .ok (.invokevirtual 171, 3) := by decide +kernel
theorem dX8_isObjectLinearizable_49 : decode cX8_isObjectLinearizable 49 = .ok (.invokestatic 151, 3) := by decide +kernel
theorem dX8_isObjectLinearizable_52 : decode cX8_isObjectLinearizable 52 = .ok (.ireturn, 1) := by decide +kernel
theorem dX8_isSequentiallyConsistent_0 : decode cX8_isSequentiallyConsistent 0 = .ok (.aload_n 0, 1) := by decide +kernel
theorem dX8_isSequentiallyConsistent_1 : decode cX8_isSequentiallyConsistent 1 = .ok (.getfield 24, 3) := by decide +kernel
theorem dX8_isSequentiallyConsistent_4 : decode cX8_isSequentiallyConsistent 4 = .ok (.aload_n 0, 1) := by decide +kernel
theorem dX8_isSequentiallyConsistent_5 : decode cX8_isSequentiallyConsistent 5 = .ok (.getfield 12, 3) := by decide +kernel
theorem dX8_isSequentiallyConsistent_8 : decode cX8_isSequentiallyConsistent 8 = .ok (.getfield 74, 3) := by decide +kernel
theorem dX8_isSequentiallyConsistent_11 : decode cX8_isSequentiallyConsistent 11 = .ok (.getfield 78, 3) := by decide +kernel
theorem dX8_isSequentiallyConsistent_14 : decode cX8_isSequentiallyConsistent 14 = .ok (.iconst (-1), 1) := by decide +kernel
theorem dX8_isSequentiallyConsistent_15 : decode cX8_isSequentiallyConsistent 15 = .ok (.invokevirtual 165, 3) := by decide +kernel
theorem dX8_isSequentiallyConsistent_18 : decode cX8_isSequentiallyConsistent 18 = .ok (.aload_n 0, 1) := by decide +kernel
theorem dX8_isSequentiallyConsistent_19 : decode cX8_isSequentiallyConsistent 19 = .ok (.getfield 24, 3) := by decide +kernel
theorem dX8_isSequentiallyConsistent_22 : decode cX8_isSequentiallyConsistent 22 = .ok (.invokevirtual 175, 3) := by decide +kernel
theorem dX8_isSequentiallyConsistent_25 : decode cX8_isSequentiallyConsistent 25 = .ok (.aload_n 0, 1) := by decide +kernel
theorem dX8_isSequentiallyConsistent_26 : decode cX8_isSequentiallyConsistent 26 = .ok (.getfield 24, 3) := by decide +kernel
theorem dX8_isSequentiallyConsistent_29 : decode cX8_isSequentiallyConsistent 29 = .ok (.invokevirtual 171, 3) := by decide +kernel
theorem dX8_isSequentiallyConsistent_32 : decode cX8_isSequentiallyConsistent 32 = .ok (.invokestatic 151, 3) := by decide +kernel
theorem dX8_isSequentiallyConsistent_35 : decode cX8_isSequentiallyConsistent 35 = .ok (.ireturn, 1) := by decide +kernel
theorem dX8_countLinearizations_0 : decode cX8_countLinearizations 0 = .ok (.aload_n 0, 1) := by decide +kernel
theorem dX8_countLinearizations_1 : decode cX8_countLinearizations 1 = .ok (.invokevirtual 178, 3) := by decide +kernel
theorem dX8_countLinearizations_4 : decode cX8_countLinearizations 4 = .ok (.aload_n 0, 1) := by decide +kernel
theorem dX8_countLinearizations_5 : decode cX8_countLinearizations 5 = .ok (.getfield 24, 3) := by decide +kernel
theorem dX8_countLinearizations_8 : decode cX8_countLinearizations 8 = .ok (.invokevirtual 181, 3) := by decide +kernel
theorem dX8_countLinearizations_11 : decode cX8_countLinearizations 11 = .ok (.ireturn, 1) := by decide +kernel
theorem dX8_firstLinearizationLength_0 : decode cX8_firstLinearizationLength 0 = .ok (.aload_n 0, 1) := by decide +kernel
theorem dX8_firstLinearizationLength_1 : decode cX8_firstLinearizationLength 1 = .ok (.invokevirtual 178, 3) := by decide +kernel
theorem dX8_firstLinearizationLength_4 : decode cX8_firstLinearizationLength 4 = .ok (.aload_n 0, 1) := by decide +kernel
theorem dX8_firstLinearizationLength_5 : decode cX8_firstLinearizationLength 5 = .ok (.getfield 24, 3) := by decide +kernel
theorem dX8_firstLinearizationLength_8 : decode cX8_firstLinearizationLength 8 = .ok (.invokevirtual 171, 3) := by decide +kernel
theorem dX8_firstLinearizationLength_11 : decode cX8_firstLinearizationLength 11 = .ok (.ifCond .ne 6, 3) := by decide +kernel
theorem dX8_firstLinearizationLength_14 : decode cX8_firstLinearizationLength 14 = .ok (.bipush (-10), 2) := by decide +kernel
theorem dX8_firstLinearizationLength_16 : decode cX8_firstLinearizationLength 16 = .ok (.ireturn, 1) := by decide +kernel
theorem dX8_firstLinearizationLength_17 : decode cX8_firstLinearizationLength 17 = .ok (.aload_n 0, 1) := by decide +kernel
theorem dX8_firstLinearizationLength_18 : decode cX8_firstLinearizationLength 18 = .ok (.getfield 24, 3) := by decide +kernel
theorem dX8_firstLinearizationLength_21 : decode cX8_firstLinearizationLength 21 = .ok (.getfield 184, 3) := by decide +kernel
theorem dX8_firstLinearizationLength_24 : decode cX8_firstLinearizationLength 24 = .ok (.ireturn, 1) := by decide +kernel
theorem dX8_firstLinearizationAt_0 : decode cX8_firstLinearizationAt 0 = .ok (.aload_n 0, 1) := by decide +kernel
theorem dX8_firstLinearizationAt_1 : decode cX8_firstLinearizationAt 1 = .ok (.invokevirtual 178, 3) := by decide +kernel
theorem dX8_firstLinearizationAt_4 : decode cX8_firstLinearizationAt 4 = .ok (.aload_n 0, 1) := by decide +kernel
theorem dX8_firstLinearizationAt_5 : decode cX8_firstLinearizationAt 5 = .ok (.getfield 24, 3) := by decide +kernel
theorem dX8_firstLinearizationAt_8 : decode cX8_firstLinearizationAt 8 = .ok (.invokevirtual 171, 3) := by decide +kernel
theorem dX8_firstLinearizationAt_11 : decode cX8_firstLinearizationAt 11 = .ok (.ifCond .eq 20, 3) := by decide +kernel
theorem dX8_firstLinearizationAt_14 : decode cX8_firstLinearizationAt 14 = .ok (.iload_n 1, 1) := by decide +kernel
theorem dX8_firstLinearizationAt_15 : decode cX8_firstLinearizationAt 15 = .ok (.iconst 0, 1) := by decide +kernel
theorem dX8_firstLinearizationAt_16 : decode cX8_firstLinearizationAt 16 = .ok (.aload_n 0, 1) := by decide +kernel
theorem dX8_firstLinearizationAt_17 : decode cX8_firstLinearizationAt 17 = .ok (.getfield 24, 3) := by decide +kernel
theorem dX8_firstLinearizationAt_20 : decode cX8_firstLinearizationAt 20 = .ok (.getfield 184, 3) := by decide +kernel
theorem dX8_firstLinearizationAt_23 : decode cX8_firstLinearizationAt 23 = .ok (.iconst 1, 1) := by decide +kernel
theorem dX8_firstLinearizationAt_24 : decode cX8_firstLinearizationAt 24 = .ok (.isub, 1) := by decide +kernel
theorem dX8_firstLinearizationAt_25 : decode cX8_firstLinearizationAt 25 = .ok (.invokestatic 48, 3) := by decide +kernel
theorem dX8_firstLinearizationAt_28 : decode cX8_firstLinearizationAt 28 = .ok (.ifCond .ne 6, 3) := by decide +kernel
theorem dX8_firstLinearizationAt_31 : decode cX8_firstLinearizationAt 31 = .ok (.bipush (-10), 2) := by decide +kernel
theorem dX8_firstLinearizationAt_33 : decode cX8_firstLinearizationAt 33 = .ok (.ireturn, 1) := by decide +kernel
theorem dX8_firstLinearizationAt_34 : decode cX8_firstLinearizationAt 34 = .ok (.aload_n 0, 1) := by decide +kernel
theorem dX8_firstLinearizationAt_35 : decode cX8_firstLinearizationAt 35 = .ok (.getfield 24, 3) := by decide +kernel
theorem dX8_firstLinearizationAt_38 : decode cX8_firstLinearizationAt 38 = .ok (.getfield 187, 3) := by decide +kernel
theorem dX8_firstLinearizationAt_41 : decode cX8_firstLinearizationAt 41 = .ok (.iload_n 1, 1) := by decide +kernel
theorem dX8_firstLinearizationAt_42 : decode cX8_firstLinearizationAt 42 = .ok (.iaload, 1) := by decide +kernel
theorem dX8_firstLinearizationAt_43 : decode cX8_firstLinearizationAt 43 = .ok (.ireturn, 1) := by decide +kernel
theorem dX8_firstViolation_0 : decode cX8_firstViolation 0 = .ok (.iconst 1, 1) := by decide +kernel
theorem dX8_firstViolation_1 : decode cX8_firstViolation 1 = .ok (.istore_n 1, 1) := by decide +kernel
theorem dX8_firstViolation_2 : decode cX8_firstViolation 2 = .ok (.iload_n 1, 1) := by decide +kernel
theorem dX8_firstViolation_3 : decode cX8_firstViolation 3 = .ok (.aload_n 0, 1) := by decide +kernel
theorem dX8_firstViolation_4 : decode cX8_firstViolation 4 = .ok (.getfield 12, 3) := by decide +kernel
theorem dX8_firstViolation_7 : decode cX8_firstViolation 7 = .ok (.getfield 74, 3) := by decide +kernel
theorem dX8_firstViolation_10 : decode cX8_firstViolation 10 = .ok (.getfield 78, 3) := by decide +kernel
theorem dX8_firstViolation_13 : decode cX8_firstViolation 13 = .ok (.if_icmp .gt 33, 3) := by decide +kernel
theorem dX8_firstViolation_16 : decode cX8_firstViolation 16 = .ok (.aload_n 0, 1) := by decide +kernel
theorem dX8_firstViolation_17 : decode cX8_firstViolation 17 = .ok (.getfield 12, 3) := by decide +kernel
theorem dX8_firstViolation_20 : decode cX8_firstViolation 20 = .ok (.getfield 74, 3) := by decide +kernel
theorem dX8_firstViolation_23 : decode cX8_firstViolation 23 = .ok (.iload_n 1, 1) := by decide +kernel
theorem dX8_firstViolation_24 : decode cX8_firstViolation 24 = .ok (.invokevirtual 190, 3) := by decide +kernel
theorem dX8_firstViolation_27 : decode cX8_firstViolation 27 = .ok (.ifCond .eq 13, 3) := by decide +kernel
theorem dX8_firstViolation_30 : decode cX8_firstViolation 30 = .ok (.aload_n 0, 1) := by decide +kernel
theorem dX8_firstViolation_31 : decode cX8_firstViolation 31 = .ok (.iload_n 1, 1) := by decide +kernel
theorem dX8_firstViolation_32 : decode cX8_firstViolation 32 = .ok (.invokevirtual 162, 3) := by decide +kernel
theorem dX8_firstViolation_35 : decode cX8_firstViolation 35 = .ok (.ifCond .ne 5, 3) := by decide +kernel
theorem dX8_firstViolation_38 : decode cX8_firstViolation 38 = .ok (.iload_n 1, 1) := by decide +kernel
theorem dX8_firstViolation_39 : decode cX8_firstViolation 39 = .ok (.ireturn, 1) := by decide +kernel
theorem dX8_firstViolation_40 : decode cX8_firstViolation 40 = .ok (.iinc 1 1, 3) := by decide +kernel
theorem dX8_firstViolation_43 : decode cX8_firstViolation 43 = .ok (.goto (-41), 3) := by decide +kernel
theorem dX8_firstViolation_46 : decode cX8_firstViolation 46 = .ok (.bipush (-10), 2) := by decide +kernel
theorem dX8_firstViolation_48 : decode cX8_firstViolation 48 = .ok (.ireturn, 1) := by decide +kernel
theorem dX8_canRespond_0 : decode cX8_canRespond 0 = .ok (.aload_n 0, 1) := by decide +kernel
theorem dX8_canRespond_1 : decode cX8_canRespond 1 = .ok (.iload_n 1, 1) := by decide +kernel
theorem dX8_canRespond_2 : decode cX8_canRespond 2 = .ok (.iload_n 2, 1) := by decide +kernel
theorem dX8_canRespond_3 : decode cX8_canRespond 3 = .ok (.invokevirtual 90, 3) := by decide +kernel
theorem dX8_canRespond_6 : decode cX8_canRespond 6 = .ok (.istore_n 3, 1) := by decide +kernel
theorem dX8_canRespond_7 : decode cX8_canRespond 7 = .ok (.iload_n 3, 1) := by decide +kernel
theorem dX8_canRespond_8 : decode cX8_canRespond 8 = .ok (.ifCond .eq 5, 3) := by decide +kernel
theorem dX8_canRespond_11 : decode cX8_canRespond 11 = .ok (.iload_n 3, 1) := by decide +kernel
theorem dX8_canRespond_12 : decode cX8_canRespond 12 = .ok (.ireturn, 1) := by decide +kernel
theorem dX8_canRespond_13 : decode cX8_canRespond 13 = .ok (.aload_n 0, 1) := by decide +kernel
theorem dX8_canRespond_14 : decode cX8_canRespond 14 = .ok (.invokevirtual 178, 3) := by decide +kernel
theorem dX8_canRespond_17 : decode cX8_canRespond 17 = .ok (.aload_n 0, 1) := by decide +kernel
theorem dX8_canRespond_18 : decode cX8_canRespond 18 = .ok (.getfield 24, 3) := by decide +kernel
theorem dX8_canRespond_21 : decode cX8_canRespond 21 = .ok (.aload_n 0, 1) := by decide +kernel
theorem dX8_canRespond_22 : decode cX8_canRespond 22 = .ok (.getfield 12, 3) := by decide +kernel
theorem dX8_canRespond_25 : decode cX8_canRespond 25 = .ok (.getfield 74, 3) := by decide +kernel
theorem dX8_canRespond_28 : decode cX8_canRespond 28 = .ok (.getfield 93, 3) := by decide +kernel
theorem dX8_canRespond_31 : decode cX8_canRespond 31 = .ok (.iload_n 1, 1) := by decide +kernel
theorem dX8_canRespond_32 : decode cX8_canRespond 32 = .ok (.iaload, 1) := by decide +kernel
theorem dX8_canRespond_33 : decode cX8_canRespond 33 = .ok (.iload_n 2, 1) := by decide +kernel
theorem dX8_canRespond_34 : decode cX8_canRespond 34 = .ok (.invokevirtual 193, 3) := by decide +kernel
theorem dX8_canRespond_37 : decode cX8_canRespond 37 = .ok (.aload_n 0, 1) := by decide +kernel
theorem dX8_canRespond_38 : decode cX8_canRespond 38 = .ok (.getfield 24, 3) := by decide +kernel
theorem dX8_canRespond_41 : decode cX8_canRespond 41 = .ok (.invokevirtual 171, 3) := by decide +kernel
theorem dX8_canRespond_44 : decode cX8_canRespond 44 = .ok (.invokestatic 151, 3) := by decide +kernel
theorem dX8_canRespond_47 : decode cX8_canRespond 47 = .ok (.ireturn, 1) := by decide +kernel
theorem dX8_countResponses_0 : decode cX8_countResponses 0 = .ok (.aload_n 0, 1) := by decide +kernel
theorem dX8_countResponses_1 : decode cX8_countResponses 1 = .ok (.iload_n 1, 1) := by decide +kernel
theorem dX8_countResponses_2 : decode cX8_countResponses 2 = .ok (.invokevirtual 196, 3) := by decide +kernel
theorem dX8_countResponses_5 : decode cX8_countResponses 5 = .ok (.istore_n 2, 1) := by decide +kernel
theorem dX8_countResponses_6 : decode cX8_countResponses 6 = .ok (.iload_n 2, 1) := by decide +kernel
theorem dX8_countResponses_7 : decode cX8_countResponses 7 = .ok (.ifCond .eq 5, 3) := by decide +kernel
theorem dX8_countResponses_10 : decode cX8_countResponses 10 = .ok (.iload_n 2, 1) := by decide +kernel
theorem dX8_countResponses_11 : decode cX8_countResponses 11 = .ok (.ireturn, 1) := by decide +kernel
theorem dX8_countResponses_12 : decode cX8_countResponses 12 = .ok (.aload_n 0, 1) := by decide +kernel
theorem dX8_countResponses_13 : decode cX8_countResponses 13 = .ok (.getfield 12, 3) := by decide +kernel
theorem dX8_countResponses_16 : decode cX8_countResponses 16 = .ok (.getfield 74, 3) := by decide +kernel
theorem dX8_countResponses_19 : decode cX8_countResponses 19 = .ok (.getfield 93, 3) := by decide +kernel
theorem dX8_countResponses_22 : decode cX8_countResponses 22 = .ok (.iload_n 1, 1) := by decide +kernel
theorem dX8_countResponses_23 : decode cX8_countResponses 23 = .ok (.iaload, 1) := by decide +kernel
theorem dX8_countResponses_24 : decode cX8_countResponses 24 = .ok (.istore_n 3, 1) := by decide +kernel
theorem dX8_countResponses_25 : decode cX8_countResponses 25 = .ok (.aload_n 0, 1) := by decide +kernel
theorem dX8_countResponses_26 : decode cX8_countResponses 26 = .ok (.getfield 12, 3) := by decide +kernel
theorem dX8_countResponses_29 : decode cX8_countResponses 29 = .ok (.getfield 74, 3) := by decide +kernel
theorem dX8_countResponses_32 : decode cX8_countResponses 32 = .ok (.getfield 127, 3) := by decide +kernel
theorem dX8_countResponses_35 : decode cX8_countResponses 35 = .ok (.iload_n 3, 1) := by decide +kernel
theorem dX8_countResponses_36 : decode cX8_countResponses 36 = .ok (.iaload, 1) := by decide +kernel
theorem dX8_countResponses_37 : decode cX8_countResponses 37 = .ok (.istore 4, 2) := by decide +kernel
theorem dX8_countResponses_39 : decode cX8_countResponses 39 = .ok (.aload_n 0, 1) := by decide +kernel
theorem dX8_countResponses_40 : decode cX8_countResponses 40 = .ok (.invokevirtual 178, 3) := by decide +kernel
theorem dX8_countResponses_43 : decode cX8_countResponses 43 = .ok (.aload_n 0, 1) := by decide +kernel
theorem dX8_countResponses_44 : decode cX8_countResponses 44 = .ok (.getfield 24, 3) := by decide +kernel
theorem dX8_countResponses_47 : decode cX8_countResponses 47 = .ok (.iload_n 3, 1) := by decide +kernel
theorem dX8_countResponses_48 : decode cX8_countResponses 48 = .ok (.iload 4, 2) := by decide +kernel
theorem dX8_countResponses_50 : decode cX8_countResponses 50 = .ok (.invokestatic 200, 3) := by decide +kernel
theorem dX8_countResponses_53 : decode cX8_countResponses 53 = .ok (.iload 4, 2) := by decide +kernel
theorem dX8_countResponses_55 : decode cX8_countResponses 55 = .ok (.invokestatic 203, 3) := by decide +kernel
theorem dX8_countResponses_58 : decode cX8_countResponses 58 = .ok (.invokevirtual 206, 3) := by decide +kernel
theorem dX8_countResponses_61 : decode cX8_countResponses 61 = .ok (.ireturn, 1) := by decide +kernel
theorem dX8_appendToOrder_0 : decode cX8_appendToOrder 0 = .ok (.aload_n 0, 1) := by decide +kernel
theorem dX8_appendToOrder_1 : decode cX8_appendToOrder 1 = .ok (.getfield 12, 3) := by decide +kernel
theorem dX8_appendToOrder_4 : decode cX8_appendToOrder 4 = .ok (.getfield 74, 3) := by decide +kernel
theorem dX8_appendToOrder_7 : decode cX8_appendToOrder 7 = .ok (.iload_n 1, 1) := by decide +kernel
theorem dX8_appendToOrder_8 : decode cX8_appendToOrder 8 = .ok (.invokevirtual 126, 3) := by decide +kernel
theorem dX8_appendToOrder_11 : decode cX8_appendToOrder 11 = .ok (.ifCond .ne 6, 3) := by decide +kernel
theorem dX8_appendToOrder_14 : decode cX8_appendToOrder 14 = .ok (.bipush (-9), 2) := by decide +kernel
theorem dX8_appendToOrder_16 : decode cX8_appendToOrder 16 = .ok (.ireturn, 1) := by decide +kernel
theorem dX8_appendToOrder_17 : decode cX8_appendToOrder 17 = .ok (.aload_n 0, 1) := by decide +kernel
theorem dX8_appendToOrder_18 : decode cX8_appendToOrder 18 = .ok (.getfield 12, 3) := by decide +kernel
theorem dX8_appendToOrder_21 : decode cX8_appendToOrder 21 = .ok (.getfield 100, 3) := by decide +kernel
theorem dX8_appendToOrder_24 : decode cX8_appendToOrder 24 = .ok (.iload_n 1, 1) := by decide +kernel
theorem dX8_appendToOrder_25 : decode cX8_appendToOrder 25 = .ok (.invokevirtual 210, 3) := by decide +kernel
theorem dX8_appendToOrder_28 : decode cX8_appendToOrder 28 = .ok (.iconst (-1), 1) := by decide +kernel
theorem dX8_appendToOrder_29 : decode cX8_appendToOrder 29 = .ok (.if_icmp .eq 6, 3) := by decide +kernel
theorem dX8_appendToOrder_32 : decode cX8_appendToOrder 32 = .ok (.bipush (-12), 2) := by decide +kernel
theorem dX8_appendToOrder_34 : decode cX8_appendToOrder 34 = .ok (.ireturn, 1) := by decide +kernel
theorem dX8_appendToOrder_35 : decode cX8_appendToOrder 35 = .ok (.aload_n 0, 1) := by decide +kernel
theorem dX8_appendToOrder_36 : decode cX8_appendToOrder 36 = .ok (.getfield 12, 3) := by decide +kernel
theorem dX8_appendToOrder_39 : decode cX8_appendToOrder 39 = .ok (.getfield 100, 3) := by decide +kernel
theorem dX8_appendToOrder_42 : decode cX8_appendToOrder 42 = .ok (.iload_n 1, 1) := by decide +kernel
theorem dX8_appendToOrder_43 : decode cX8_appendToOrder 43 = .ok (.invokevirtual 213, 3) := by decide +kernel
theorem dX8_appendToOrder_46 : decode cX8_appendToOrder 46 = .ok (.aload_n 0, 1) := by decide +kernel
theorem dX8_appendToOrder_47 : decode cX8_appendToOrder 47 = .ok (.getfield 12, 3) := by decide +kernel
theorem dX8_appendToOrder_50 : decode cX8_appendToOrder 50 = .ok (.getfield 100, 3) := by decide +kernel
theorem dX8_appendToOrder_53 : decode cX8_appendToOrder 53 = .ok (.getfield 216, 3) := by decide +kernel
theorem dX8_appendToOrder_56 : decode cX8_appendToOrder 56 = .ok (.ireturn, 1) := by decide +kernel
theorem dX8_removeFromOrder_0 : decode cX8_removeFromOrder 0 = .ok (.aload_n 0, 1) := by decide +kernel
theorem dX8_removeFromOrder_1 : decode cX8_removeFromOrder 1 = .ok (.getfield 12, 3) := by decide +kernel
theorem dX8_removeFromOrder_4 : decode cX8_removeFromOrder 4 = .ok (.getfield 74, 3) := by decide +kernel
theorem dX8_removeFromOrder_7 : decode cX8_removeFromOrder 7 = .ok (.iload_n 1, 1) := by decide +kernel
theorem dX8_removeFromOrder_8 : decode cX8_removeFromOrder 8 = .ok (.invokevirtual 126, 3) := by decide +kernel
theorem dX8_removeFromOrder_11 : decode cX8_removeFromOrder 11 = .ok (.ifCond .ne 6, 3) := by decide +kernel
theorem dX8_removeFromOrder_14 : decode cX8_removeFromOrder 14 = .ok (.bipush (-9), 2) := by decide +kernel
theorem dX8_removeFromOrder_16 : decode cX8_removeFromOrder 16 = .ok (.ireturn, 1) := by decide +kernel
theorem dX8_removeFromOrder_17 : decode cX8_removeFromOrder 17 = .ok (.aload_n 0, 1) := by decide +kernel
theorem dX8_removeFromOrder_18 : decode cX8_removeFromOrder 18 = .ok (.getfield 12, 3) := by decide +kernel
theorem dX8_removeFromOrder_21 : decode cX8_removeFromOrder 21 = .ok (.getfield 100, 3) := by decide +kernel
theorem dX8_removeFromOrder_24 : decode cX8_removeFromOrder 24 = .ok (.iload_n 1, 1) := by decide +kernel
theorem dX8_removeFromOrder_25 : decode cX8_removeFromOrder 25 = .ok (.invokevirtual 210, 3) := by decide +kernel
theorem dX8_removeFromOrder_28 : decode cX8_removeFromOrder 28 = .ok (.istore_n 2, 1) := by decide +kernel
theorem dX8_removeFromOrder_29 : decode cX8_removeFromOrder 29 = .ok (.iload_n 2, 1) := by decide +kernel
theorem dX8_removeFromOrder_30 : decode cX8_removeFromOrder 30 = .ok (.iconst (-1), 1) := by decide +kernel
theorem dX8_removeFromOrder_31 : decode cX8_removeFromOrder 31 = .ok (.if_icmp .ne 6, 3) := by decide +kernel
theorem dX8_removeFromOrder_34 : decode cX8_removeFromOrder 34 = .ok (.bipush (-10), 2) := by decide +kernel
theorem dX8_removeFromOrder_36 : decode cX8_removeFromOrder 36 = .ok (.ireturn, 1) := by decide +kernel
theorem dX8_removeFromOrder_37 : decode cX8_removeFromOrder 37 = .ok (.aload_n 0, 1) := by decide +kernel
theorem dX8_removeFromOrder_38 : decode cX8_removeFromOrder 38 = .ok (.getfield 12, 3) := by decide +kernel
theorem dX8_removeFromOrder_41 : decode cX8_removeFromOrder 41 = .ok (.getfield 100, 3) := by decide +kernel
theorem dX8_removeFromOrder_44 : decode cX8_removeFromOrder 44 = .ok (.iload_n 2, 1) := by decide +kernel
theorem dX8_removeFromOrder_45 : decode cX8_removeFromOrder 45 = .ok (.invokevirtual 219, 3) := by decide +kernel
theorem dX8_removeFromOrder_48 : decode cX8_removeFromOrder 48 = .ok (.iload_n 2, 1) := by decide +kernel
theorem dX8_removeFromOrder_49 : decode cX8_removeFromOrder 49 = .ok (.ireturn, 1) := by decide +kernel
theorem dX8_orderSize_0 : decode cX8_orderSize 0 = .ok (.aload_n 0, 1) := by decide +kernel
theorem dX8_orderSize_1 : decode cX8_orderSize 1 = .ok (.getfield 12, 3) := by decide +kernel
theorem dX8_orderSize_4 : decode cX8_orderSize 4 = .ok (.getfield 100, 3) := by decide +kernel
theorem dX8_orderSize_7 : decode cX8_orderSize 7 = .ok (.getfield 216, 3) := by decide +kernel
theorem dX8_orderSize_10 : decode cX8_orderSize 10 = .ok (.ireturn, 1) := by decide +kernel
theorem dX8_orderAt_0 : decode cX8_orderAt 0 = .ok (.iload_n 1, 1) := by decide +kernel
theorem dX8_orderAt_1 : decode cX8_orderAt 1 = .ok (.iconst 0, 1) := by decide +kernel
theorem dX8_orderAt_2 : decode cX8_orderAt 2 = .ok (.aload_n 0, 1) := by decide +kernel
theorem dX8_orderAt_3 : decode cX8_orderAt 3 = .ok (.getfield 12, 3) := by decide +kernel
theorem dX8_orderAt_6 : decode cX8_orderAt 6 = .ok (.getfield 100, 3) := by decide +kernel
theorem dX8_orderAt_9 : decode cX8_orderAt 9 = .ok (.getfield 216, 3) := by decide +kernel
theorem dX8_orderAt_12 : decode cX8_orderAt 12 = .ok (.iconst 1, 1) := by decide +kernel
theorem dX8_orderAt_13 : decode cX8_orderAt 13 = .ok (.isub, 1) := by decide +kernel
theorem dX8_orderAt_14 : decode cX8_orderAt 14 = .ok (.invokestatic 48, 3) := by decide +kernel
theorem dX8_orderAt_17 : decode cX8_orderAt 17 = .ok (.ifCond .ne 6, 3) := by decide +kernel
theorem dX8_orderAt_20 : decode cX8_orderAt 20 = .ok (.bipush (-10), 2) := by decide +kernel
theorem dX8_orderAt_22 : decode cX8_orderAt 22 = .ok (.ireturn, 1) := by decide +kernel
theorem dX8_orderAt_23 : decode cX8_orderAt 23 = .ok (.aload_n 0, 1) := by decide +kernel
theorem dX8_orderAt_24 : decode cX8_orderAt 24 = .ok (.getfield 12, 3) := by decide +kernel
theorem dX8_orderAt_27 : decode cX8_orderAt 27 = .ok (.getfield 100, 3) := by decide +kernel
theorem dX8_orderAt_30 : decode cX8_orderAt 30 = .ok (.getfield 222, 3) := by decide +kernel
theorem dX8_orderAt_33 : decode cX8_orderAt 33 = .ok (.iload_n 1, 1) := by decide +kernel
theorem dX8_orderAt_34 : decode cX8_orderAt 34 = .ok (.iaload, 1) := by decide +kernel
theorem dX8_orderAt_35 : decode cX8_orderAt 35 = .ok (.ireturn, 1) := by decide +kernel
theorem dX8_isOrderLinearization_0 : decode cX8_isOrderLinearization 0 = .ok (.aload_n 0, 1) := by decide +kernel
theorem dX8_isOrderLinearization_1 : decode cX8_isOrderLinearization 1 = .ok (.invokevirtual 178, 3) := by decide +kernel
theorem dX8_isOrderLinearization_4 : decode cX8_isOrderLinearization 4 = .ok (.aload_n 0, 1) := by decide +kernel
theorem dX8_isOrderLinearization_5 : decode cX8_isOrderLinearization 5 = .ok (.getfield 24, 3) := by decide +kernel
theorem dX8_isOrderLinearization_8 : decode cX8_isOrderLinearization 8 = .ok (.aload_n 0, 1) := by decide +kernel
theorem dX8_isOrderLinearization_9 : decode cX8_isOrderLinearization 9 = .ok (.getfield 12, 3) := by decide +kernel
theorem dX8_isOrderLinearization_12 : decode cX8_isOrderLinearization 12 = .ok (.getfield 100, 3) := by decide +kernel
theorem dX8_isOrderLinearization_15 : decode cX8_isOrderLinearization 15 = .ok (.invokevirtual 224, 3) := by decide +kernel
theorem dX8_isOrderLinearization_18 : decode cX8_isOrderLinearization 18 = .ok (.ifCond .eq 25, 3) := by decide +kernel
theorem dX8_isOrderLinearization_21 : decode cX8_isOrderLinearization 21 = .ok (.aload_n 0, 1) := by decide +kernel
theorem dX8_isOrderLinearization_22 : decode cX8_isOrderLinearization 22 = .ok (.getfield 24, 3) := by decide +kernel
theorem dX8_isOrderLinearization_25 : decode cX8_isOrderLinearization 25 = .ok (.aload_n 0, 1) := by decide +kernel
theorem dX8_isOrderLinearization_26 : decode cX8_isOrderLinearization 26 = .ok (.getfield 12, 3) := by decide +kernel
theorem dX8_isOrderLinearization_29 : decode cX8_isOrderLinearization 29 = .ok (.getfield 100, 3) := by decide +kernel
theorem dX8_isOrderLinearization_32 : decode cX8_isOrderLinearization 32 = .ok (.invokevirtual 228, 3) := by decide +kernel
theorem dX8_isOrderLinearization_35 : decode cX8_isOrderLinearization 35 = .ok (.iconst (-1), 1) := by decide +kernel
theorem dX8_isOrderLinearization_36 : decode cX8_isOrderLinearization 36 = .ok (.if_icmp .ne 7, 3) := by decide +kernel
theorem dX8_isOrderLinearization_39 : decode cX8_isOrderLinearization 39 = .ok (.iconst 1, 1) := by decide +kernel
theorem dX8_isOrderLinearization_40 : decode cX8_isOrderLinearization 40 = .ok (.goto 4, 3) := by decide +kernel
theorem dX8_isOrderLinearization_43 : decode cX8_isOrderLinearization 43 = .ok (.iconst 0, 1) := by decide +kernel
theorem dX8_isOrderLinearization_44 : decode cX8_isOrderLinearization 44 = .ok (.invokestatic 151, 3) := by decide +kernel
theorem dX8_isOrderLinearization_47 : decode cX8_isOrderLinearization 47 = .ok (.ireturn, 1) := by decide +kernel
theorem dX8_firstBadPosition_0 : decode cX8_firstBadPosition 0 = .ok (.aload_n 0, 1) := by decide +kernel
theorem dX8_firstBadPosition_1 : decode cX8_firstBadPosition 1 = .ok (.invokevirtual 178, 3) := by decide +kernel
theorem dX8_firstBadPosition_4 : decode cX8_firstBadPosition 4 = .ok (.aload_n 0, 1) := by decide +kernel
theorem dX8_firstBadPosition_5 : decode cX8_firstBadPosition 5 = .ok (.getfield 24, 3) := by decide +kernel
theorem dX8_firstBadPosition_8 : decode cX8_firstBadPosition 8 = .ok (.aload_n 0, 1) := by decide +kernel
theorem dX8_firstBadPosition_9 : decode cX8_firstBadPosition 9 = .ok (.getfield 12, 3) := by decide +kernel
theorem dX8_firstBadPosition_12 : decode cX8_firstBadPosition 12 = .ok (.getfield 100, 3) := by decide +kernel
theorem dX8_firstBadPosition_15 : decode cX8_firstBadPosition 15 = .ok (.invokevirtual 228, 3) := by decide +kernel
theorem dX8_firstBadPosition_18 : decode cX8_firstBadPosition 18 = .ok (.istore_n 1, 1) := by decide +kernel
theorem dX8_firstBadPosition_19 : decode cX8_firstBadPosition 19 = .ok (.iload_n 1, 1) := by decide +kernel
theorem dX8_firstBadPosition_20 : decode cX8_firstBadPosition 20 = .ok (.iconst (-1), 1) := by decide +kernel
theorem dX8_firstBadPosition_21 : decode cX8_firstBadPosition 21 = .ok (.if_icmp .ne 8, 3) := by decide +kernel
theorem dX8_firstBadPosition_24 : decode cX8_firstBadPosition 24 = .ok (.bipush (-10), 2) := by decide +kernel
theorem dX8_firstBadPosition_26 : decode cX8_firstBadPosition 26 = .ok (.goto 4, 3) := by decide +kernel
theorem dX8_firstBadPosition_29 : decode cX8_firstBadPosition 29 = .ok (.iload_n 1, 1) := by decide +kernel
theorem dX8_firstBadPosition_30 : decode cX8_firstBadPosition 30 = .ok (.ireturn, 1) := by decide +kernel
theorem dX8_appendCharacter_0 : decode cX8_appendCharacter 0 = .ok (.iload_n 1, 1) := by decide +kernel
theorem dX8_appendCharacter_1 : decode cX8_appendCharacter 1 = .ok (.bipush 32, 2) := by decide +kernel
theorem dX8_appendCharacter_3 : decode cX8_appendCharacter 3 = .ok (.bipush 126, 2) := by decide +kernel
theorem dX8_appendCharacter_5 : decode cX8_appendCharacter 5 = .ok (.invokestatic 48, 3) := by decide +kernel
theorem dX8_appendCharacter_8 : decode cX8_appendCharacter 8 = .ok (.ifCond .ne 6, 3) := by decide +kernel
theorem dX8_appendCharacter_11 : decode cX8_appendCharacter 11 = .ok (.bipush (-4), 2) := by decide +kernel
theorem dX8_appendCharacter_13 : decode cX8_appendCharacter 13 = .ok (.ireturn, 1) := by decide +kernel
theorem dX8_appendCharacter_14 : decode cX8_appendCharacter 14 = .ok (.aload_n 0, 1) := by decide +kernel
theorem dX8_appendCharacter_15 : decode cX8_appendCharacter 15 = .ok (.getfield 31, 3) := by decide +kernel
theorem dX8_appendCharacter_18 : decode cX8_appendCharacter 18 = .ok (.getfield 232, 3) := by decide +kernel
theorem dX8_appendCharacter_21 : decode cX8_appendCharacter 21 = .ok (.bipush 120, 2) := by decide +kernel
theorem dX8_appendCharacter_23 : decode cX8_appendCharacter 23 = .ok (.if_icmp .lt 6, 3) := by decide +kernel
theorem dX8_appendCharacter_26 : decode cX8_appendCharacter 26 = .ok (.bipush (-8), 2) := by decide +kernel
theorem dX8_appendCharacter_28 : decode cX8_appendCharacter 28 = .ok (.ireturn, 1) := by decide +kernel
theorem dX8_appendCharacter_29 : decode cX8_appendCharacter 29 = .ok (.aload_n 0, 1) := by decide +kernel
theorem dX8_appendCharacter_30 : decode cX8_appendCharacter 30 = .ok (.getfield 31, 3) := by decide +kernel
theorem dX8_appendCharacter_33 : decode cX8_appendCharacter 33 = .ok (.iload_n 1, 1) := by decide +kernel
theorem dX8_appendCharacter_34 : decode cX8_appendCharacter 34 = .ok (.i2c, 1) := by decide +kernel
theorem dX8_appendCharacter_35 : decode cX8_appendCharacter 35 = .ok (.invokevirtual 235, 3) := by decide +kernel
theorem dX8_appendCharacter_38 : decode cX8_appendCharacter 38 = .ok (.aload_n 0, 1) := by decide +kernel
theorem dX8_appendCharacter_39 : decode cX8_appendCharacter 39 = .ok (.getfield 31, 3) := by decide +kernel
theorem dX8_appendCharacter_42 : decode cX8_appendCharacter 42 = .ok (.getfield 232, 3) := by decide +kernel
theorem dX8_appendCharacter_45 : decode cX8_appendCharacter 45 = .ok (.ireturn, 1) := by decide +kernel
theorem dX8_clearText_0 : decode cX8_clearText 0 = .ok (.aload_n 0, 1) := by decide +kernel
theorem dX8_clearText_1 : decode cX8_clearText 1 = .ok (.getfield 31, 3) := by decide +kernel
theorem dX8_clearText_4 : decode cX8_clearText 4 = .ok (.getfield 232, 3) := by decide +kernel
theorem dX8_clearText_7 : decode cX8_clearText 7 = .ok (.istore_n 1, 1) := by decide +kernel
theorem dX8_clearText_8 : decode cX8_clearText 8 = .ok (.aload_n 0, 1) := by decide +kernel
theorem dX8_clearText_9 : decode cX8_clearText 9 = .ok (.getfield 31, 3) := by decide +kernel
theorem dX8_clearText_12 : decode cX8_clearText 12 = .ok (.invokevirtual 238, 3) := by decide +kernel
theorem dX8_clearText_15 : decode cX8_clearText 15 = .ok (.iload_n 1, 1) := by decide +kernel
theorem dX8_clearText_16 : decode cX8_clearText 16 = .ok (.ireturn, 1) := by decide +kernel
theorem dX8_parseText_0 : decode cX8_parseText 0 = .ok (.aload_n 0, 1) := by decide +kernel
theorem dX8_parseText_1 : decode cX8_parseText 1 = .ok (.getfield 40, 3) := by decide +kernel
theorem dX8_parseText_4 : decode cX8_parseText 4 = .ok (.invokevirtual 239, 3) := by decide +kernel
theorem dX8_parseText_7 : decode cX8_parseText 7 = .ok (.istore_n 1, 1) := by decide +kernel
theorem dX8_parseText_8 : decode cX8_parseText 8 = .ok (.aload_n 0, 1) := by decide +kernel
theorem dX8_parseText_9 : decode cX8_parseText 9 = .ok (.getfield 31, 3) := by decide +kernel
theorem dX8_parseText_12 : decode cX8_parseText 12 = .ok (.invokevirtual 238, 3) := by decide +kernel
theorem dX8_parseText_15 : decode cX8_parseText 15 = .ok (.iload_n 1, 1) := by decide +kernel
theorem dX8_parseText_16 : decode cX8_parseText 16 = .ok (.ifCond .ne 15, 3) := by decide +kernel
theorem dX8_parseText_19 : decode cX8_parseText 19 = .ok (.sipush (-1000), 3) := by decide +kernel
theorem dX8_parseText_22 : decode cX8_parseText 22 = .ok (.aload_n 0, 1) := by decide +kernel
theorem dX8_parseText_23 : decode cX8_parseText 23 = .ok (.getfield 40, 3) := by decide +kernel
theorem dX8_parseText_26 : decode cX8_parseText 26 = .ok (.getfield 242, 3) := by decide +kernel
theorem dX8_parseText_29 : decode cX8_parseText 29 = .ok (.isub, 1) := by decide +kernel
theorem dX8_parseText_30 : decode cX8_parseText 30 = .ok (.ireturn, 1) := by decide +kernel
theorem dX8_parseText_31 : decode cX8_parseText 31 = .ok (.iconst 0, 1) := by decide +kernel
theorem dX8_parseText_32 : decode cX8_parseText 32 = .ok (.istore_n 2, 1) := by decide +kernel
theorem dX8_parseText_33 : decode cX8_parseText 33 = .ok (.iload_n 2, 1) := by decide +kernel
theorem dX8_parseText_34 : decode cX8_parseText 34 = .ok (.aload_n 0, 1) := by decide +kernel
theorem dX8_parseText_35 : decode cX8_parseText 35 = .ok (.getfield 40, 3) := by decide +kernel
theorem dX8_parseText_38 : decode cX8_parseText 38 = .ok (.getfield 245, 3) := by decide +kernel
theorem dX8_parseText_41 : decode cX8_parseText 41 = .ok (.if_icmp .ge 23, 3) := by decide +kernel
theorem dX8_parseText_44 : decode cX8_parseText 44 = .ok (.aload_n 0, 1) := by decide +kernel
theorem dX8_parseText_45 : decode cX8_parseText 45 = .ok (.iload_n 2, 1) := by decide +kernel
theorem dX8_parseText_46 : decode cX8_parseText 46 = .ok (.invokevirtual 248, 3) := by decide +kernel
theorem dX8_parseText_49 : decode cX8_parseText 49 = .ok (.ifCond .ge 9, 3) := by decide +kernel
theorem dX8_parseText_52 : decode cX8_parseText 52 = .ok (.sipush (-2000), 3) := by decide +kernel
theorem dX8_parseText_55 : decode cX8_parseText 55 = .ok (.iload_n 2, 1) := by decide +kernel
theorem dX8_parseText_56 : decode cX8_parseText 56 = .ok (.isub, 1) := by decide +kernel
theorem dX8_parseText_57 : decode cX8_parseText 57 = .ok (.ireturn, 1) := by decide +kernel
theorem dX8_parseText_58 : decode cX8_parseText 58 = .ok (.iinc 2 1, 3) := by decide +kernel
theorem dX8_parseText_61 : decode cX8_parseText 61 = .ok (.goto (-28), 3) := by decide +kernel
theorem dX8_parseText_64 : decode cX8_parseText 64 = .ok (.aload_n 0, 1) := by decide +kernel
theorem dX8_parseText_65 : decode cX8_parseText 65 = .ok (.getfield 40, 3) := by decide +kernel
theorem dX8_parseText_68 : decode cX8_parseText 68 = .ok (.getfield 245, 3) := by decide +kernel
theorem dX8_parseText_71 : decode cX8_parseText 71 = .ok (.ireturn, 1) := by decide +kernel
theorem dX8_saveSnapshot_0 : decode cX8_saveSnapshot 0 = .ok (.aload_n 0, 1) := by decide +kernel
theorem dX8_saveSnapshot_1 : decode cX8_saveSnapshot 1 = .ok (.getfield 16, 3) := by decide +kernel
theorem dX8_saveSnapshot_4 : decode cX8_saveSnapshot 4 = .ok (.aload_n 0, 1) := by decide +kernel
theorem dX8_saveSnapshot_5 : decode cX8_saveSnapshot 5 = .ok (.getfield 12, 3) := by decide +kernel
theorem dX8_saveSnapshot_8 : decode cX8_saveSnapshot 8 = .ok (.invokevirtual 251, 3) := by decide +kernel
theorem dX8_saveSnapshot_11 : decode cX8_saveSnapshot 11 = .ok (.aload_n 0, 1) := by decide +kernel
theorem dX8_saveSnapshot_12 : decode cX8_saveSnapshot 12 = .ok (.iconst 1, 1) := by decide +kernel
theorem dX8_saveSnapshot_13 : decode cX8_saveSnapshot 13 = .ok (.putfield 44, 3) := by decide +kernel
theorem dX8_saveSnapshot_16 : decode cX8_saveSnapshot 16 = .ok (.aload_n 0, 1) := by decide +kernel
theorem dX8_saveSnapshot_17 : decode cX8_saveSnapshot 17 = .ok (.getfield 16, 3) := by decide +kernel
theorem dX8_saveSnapshot_20 : decode cX8_saveSnapshot 20 = .ok (.getfield 74, 3) := by decide +kernel
theorem dX8_saveSnapshot_23 : decode cX8_saveSnapshot 23 = .ok (.getfield 78, 3) := by decide +kernel
theorem dX8_saveSnapshot_26 : decode cX8_saveSnapshot 26 = .ok (.ireturn, 1) := by decide +kernel
theorem dX8_restoreSnapshot_0 : decode cX8_restoreSnapshot 0 = .ok (.aload_n 0, 1) := by decide +kernel
theorem dX8_restoreSnapshot_1 : decode cX8_restoreSnapshot 1 = .ok (.getfield 44, 3) := by decide +kernel
theorem dX8_restoreSnapshot_4 : decode cX8_restoreSnapshot 4 = .ok (.ifCond .ne 6, 3) := by decide +kernel
theorem dX8_restoreSnapshot_7 : decode cX8_restoreSnapshot 7 = .ok (.bipush (-13), 2) := by decide +kernel
theorem dX8_restoreSnapshot_9 : decode cX8_restoreSnapshot 9 = .ok (.ireturn, 1) := by decide +kernel
theorem dX8_restoreSnapshot_10 : decode cX8_restoreSnapshot 10 = .ok (.aload_n 0, 1) := by decide +kernel
theorem dX8_restoreSnapshot_11 : decode cX8_restoreSnapshot 11 = .ok (.getfield 12, 3) := by decide +kernel
theorem dX8_restoreSnapshot_14 : decode cX8_restoreSnapshot 14 = .ok (.aload_n 0, 1) := by decide +kernel
theorem dX8_restoreSnapshot_15 : decode cX8_restoreSnapshot 15 = .ok (.getfield 16, 3) := by decide +kernel
theorem dX8_restoreSnapshot_18 : decode cX8_restoreSnapshot 18 = .ok (.invokevirtual 251, 3) := by decide +kernel
theorem dX8_restoreSnapshot_21 : decode cX8_restoreSnapshot 21 = .ok (.aload_n 0, 1) := by decide +kernel
theorem dX8_restoreSnapshot_22 : decode cX8_restoreSnapshot 22 = .ok (.getfield 12, 3) := by decide +kernel
theorem dX8_restoreSnapshot_25 : decode cX8_restoreSnapshot 25 = .ok (.getfield 74, 3) := by decide +kernel
theorem dX8_restoreSnapshot_28 : decode cX8_restoreSnapshot 28 = .ok (.getfield 78, 3) := by decide +kernel
theorem dX8_restoreSnapshot_31 : decode cX8_restoreSnapshot 31 = .ok (.ireturn, 1) := by decide +kernel
theorem dX8_createObject_0 : decode cX8_createObject 0 = .ok (.aload_n 0, 1) := by decide +kernel
theorem dX8_createObject_1 : decode cX8_createObject 1 = .ok (.getfield 12, 3) := by decide +kernel
theorem dX8_createObject_4 : decode cX8_createObject 4 = .ok (.getfield 56, 3) := by decide +kernel
theorem dX8_createObject_7 : decode cX8_createObject 7 = .ok (.getfield 60, 3) := by decide +kernel
theorem dX8_createObject_10 : decode cX8_createObject 10 = .ok (.iconst 4, 1) := by decide +kernel
theorem dX8_createObject_11 : decode cX8_createObject 11 = .ok (.if_icmp .lt 6, 3) := by decide +kernel
theorem dX8_createObject_14 : decode cX8_createObject 14 = .ok (.bipush (-8), 2) := by decide +kernel
theorem dX8_createObject_16 : decode cX8_createObject 16 = .ok (.ireturn, 1) := by decide +kernel
theorem dX8_createObject_17 : decode cX8_createObject 17 = .ok (.aload_n 0, 1) := by decide +kernel
theorem dX8_createObject_18 : decode cX8_createObject 18 = .ok (.getfield 12, 3) := by decide +kernel
theorem dX8_createObject_21 : decode cX8_createObject 21 = .ok (.getfield 56, 3) := by decide +kernel
theorem dX8_createObject_24 : decode cX8_createObject 24 = .ok (.getfield 60, 3) := by decide +kernel
theorem dX8_createObject_27 : decode cX8_createObject 27 = .ok (.istore_n 3, 1) := by decide +kernel
theorem dX8_createObject_28 : decode cX8_createObject 28 = .ok (.aload_n 0, 1) := by decide +kernel
theorem dX8_createObject_29 : decode cX8_createObject 29 = .ok (.getfield 12, 3) := by decide +kernel
theorem dX8_createObject_32 : decode cX8_createObject 32 = .ok (.getfield 56, 3) := by decide +kernel
theorem dX8_createObject_35 : decode cX8_createObject 35 = .ok (.iload_n 1, 1) := by decide +kernel
theorem dX8_createObject_36 : decode cX8_createObject 36 = .ok (.iload_n 2, 1) := by decide +kernel
theorem dX8_createObject_37 : decode cX8_createObject 37 = .ok (.invokevirtual 254, 3) := by decide +kernel
theorem dX8_createObject_40 : decode cX8_createObject 40 = .ok (.aload_n 0, 1) := by decide +kernel
theorem dX8_createObject_41 : decode cX8_createObject 41 = .ok (.getfield 12, 3) := by decide +kernel
theorem dX8_createObject_44 : decode cX8_createObject 44 = .ok (.getfield 100, 3) := by decide +kernel
theorem dX8_createObject_47 : decode cX8_createObject 47 = .ok (.invokevirtual 104, 3) := by decide +kernel
theorem dX8_createObject_50 : decode cX8_createObject 50 = .ok (.iload_n 3, 1) := by decide +kernel
theorem dX8_createObject_51 : decode cX8_createObject 51 = .ok (.ireturn, 1) := by decide +kernel
theorem dX8_invoke_0 : decode cX8_invoke 0 = .ok (.aload_n 0, 1) := by decide +kernel
theorem dX8_invoke_1 : decode cX8_invoke 1 = .ok (.iload_n 1, 1) := by decide +kernel
theorem dX8_invoke_2 : decode cX8_invoke 2 = .ok (.iload_n 2, 1) := by decide +kernel
theorem dX8_invoke_3 : decode cX8_invoke 3 = .ok (.iload_n 3, 1) := by decide +kernel
theorem dX8_invoke_4 : decode cX8_invoke 4 = .ok (.iload 4, 2) := by decide +kernel
theorem dX8_invoke_6 : decode cX8_invoke 6 = .ok (.iload 5, 2) := by decide +kernel
theorem dX8_invoke_8 : decode cX8_invoke 8 = .ok (.invokevirtual 256, 3) := by decide +kernel
theorem dX8_invoke_11 : decode cX8_invoke 11 = .ok (.istore 6, 2) := by decide +kernel
theorem dX8_invoke_13 : decode cX8_invoke 13 = .ok (.iload 6, 2) := by decide +kernel
theorem dX8_invoke_15 : decode cX8_invoke 15 = .ok (.ifCond .eq 6, 3) := by decide +kernel
theorem dX8_invoke_18 : decode cX8_invoke 18 = .ok (.iload 6, 2) := by decide +kernel
theorem dX8_invoke_20 : decode cX8_invoke 20 = .ok (.ireturn, 1) := by decide +kernel
theorem dX8_invoke_21 : decode cX8_invoke 21 = .ok (.aload_n 0, 1) := by decide +kernel
theorem dX8_invoke_22 : decode cX8_invoke 22 = .ok (.getfield 12, 3) := by decide +kernel
theorem dX8_invoke_25 : decode cX8_invoke 25 = .ok (.getfield 74, 3) := by decide +kernel
theorem dX8_invoke_28 : decode cX8_invoke 28 = .ok (.getfield 123, 3) := by decide +kernel
theorem dX8_invoke_31 : decode cX8_invoke 31 = .ok (.istore 7, 2) := by decide +kernel
theorem dX8_invoke_33 : decode cX8_invoke 33 = .ok (.aload_n 0, 1) := by decide +kernel
theorem dX8_invoke_34 : decode cX8_invoke 34 = .ok (.getfield 12, 3) := by decide +kernel
theorem dX8_invoke_37 : decode cX8_invoke 37 = .ok (.getfield 74, 3) := by decide +kernel
theorem dX8_invoke_40 : decode cX8_invoke 40 = .ok (.iload_n 1, 1) := by decide +kernel
theorem dX8_invoke_41 : decode cX8_invoke 41 = .ok (.iload_n 2, 1) := by decide +kernel
theorem dX8_invoke_42 : decode cX8_invoke 42 = .ok (.iload_n 3, 1) := by decide +kernel
theorem dX8_invoke_43 : decode cX8_invoke 43 = .ok (.iload 4, 2) := by decide +kernel
theorem dX8_invoke_45 : decode cX8_invoke 45 = .ok (.iload 5, 2) := by decide +kernel
theorem dX8_invoke_47 : decode cX8_invoke 47 = .ok (.invokevirtual 259, 3) := by decide +kernel
theorem dX8_invoke_50 : decode cX8_invoke 50 = .ok (.aload_n 0, 1) := by decide +kernel
theorem dX8_invoke_51 : decode cX8_invoke 51 = .ok (.getfield 12, 3) := by decide +kernel
theorem dX8_invoke_54 : decode cX8_invoke 54 = .ok (.getfield 100, 3) := by decide +kernel
theorem dX8_invoke_57 : decode cX8_invoke 57 = .ok (.invokevirtual 104, 3) := by decide +kernel
theorem dX8_invoke_60 : decode cX8_invoke 60 = .ok (.iload 7, 2) := by decide +kernel
theorem dX8_invoke_62 : decode cX8_invoke 62 = .ok (.ireturn, 1) := by decide +kernel
theorem dX8_invocationError_0 : decode cX8_invocationError 0 = .ok (.iload_n 2, 1) := by decide +kernel
theorem dX8_invocationError_1 : decode cX8_invocationError 1 = .ok (.invokestatic 109, 3) := by decide +kernel
theorem dX8_invocationError_4 : decode cX8_invocationError 4 = .ok (.ifCond .ne 5, 3) := by decide +kernel
theorem dX8_invocationError_7 : decode cX8_invocationError 7 = .ok (.iconst (-1), 1) := by decide +kernel
theorem dX8_invocationError_8 : decode cX8_invocationError 8 = .ok (.ireturn, 1) := by decide +kernel
theorem dX8_invocationError_9 : decode cX8_invocationError 9 = .ok (.aload_n 0, 1) := by decide +kernel
theorem dX8_invocationError_10 : decode cX8_invocationError 10 = .ok (.getfield 12, 3) := by decide +kernel
theorem dX8_invocationError_13 : decode cX8_invocationError 13 = .ok (.getfield 56, 3) := by decide +kernel
theorem dX8_invocationError_16 : decode cX8_invocationError 16 = .ok (.iload_n 3, 1) := by decide +kernel
theorem dX8_invocationError_17 : decode cX8_invocationError 17 = .ok (.invokevirtual 66, 3) := by decide +kernel
theorem dX8_invocationError_20 : decode cX8_invocationError 20 = .ok (.ifCond .ne 6, 3) := by decide +kernel
theorem dX8_invocationError_23 : decode cX8_invocationError 23 = .ok (.bipush (-2), 2) := by decide +kernel
theorem dX8_invocationError_25 : decode cX8_invocationError 25 = .ok (.ireturn, 1) := by decide +kernel
theorem dX8_invocationError_26 : decode cX8_invocationError 26 = .ok (.aload_n 0, 1) := by decide +kernel
theorem dX8_invocationError_27 : decode cX8_invocationError 27 = .ok (.getfield 12, 3) := by decide +kernel
theorem dX8_invocationError_30 : decode cX8_invocationError 30 = .ok (.getfield 56, 3) := by decide +kernel
theorem dX8_invocationError_33 : decode cX8_invocationError 33 = .ok (.getfield 70, 3) := by decide +kernel
theorem dX8_invocationError_36 : decode cX8_invocationError 36 = .ok (.iload_n 3, 1) := by decide +kernel
theorem dX8_invocationError_37 : decode cX8_invocationError 37 = .ok (.iaload, 1) := by decide +kernel
theorem dX8_invocationError_38 : decode cX8_invocationError 38 = .ok (.iload_n 1, 1) := by decide +kernel
theorem dX8_invocationError_39 : decode cX8_invocationError 39 = .ok (.invokestatic 263, 3) := by decide +kernel
theorem dX8_invocationError_42 : decode cX8_invocationError 42 = .ok (.if_icmp .eq 6, 3) := by decide +kernel
theorem dX8_invocationError_45 : decode cX8_invocationError 45 = .ok (.bipush (-3), 2) := by decide +kernel
theorem dX8_invocationError_47 : decode cX8_invocationError 47 = .ok (.ireturn, 1) := by decide +kernel
theorem dX8_invocationError_48 : decode cX8_invocationError 48 = .ok (.iload_n 1, 1) := by decide +kernel
theorem dX8_invocationError_49 : decode cX8_invocationError 49 = .ok (.iconst 4, 1) := by decide +kernel
theorem dX8_invocationError_50 : decode cX8_invocationError 50 = .ok (.if_icmp .ne 8, 3) := by decide +kernel
theorem dX8_invocationError_53 : decode cX8_invocationError 53 = .ok (.bipush (-99), 2) := by decide +kernel
theorem dX8_invocationError_55 : decode cX8_invocationError 55 = .ok (.goto 4, 3) := by decide +kernel
theorem dX8_invocationError_58 : decode cX8_invocationError 58 = .ok (.iconst 0, 1) := by decide +kernel
theorem dX8_invocationError_59 : decode cX8_invocationError 59 = .ok (.istore 6, 2) := by decide +kernel
theorem dX8_invocationError_61 : decode cX8_invocationError 61 = .ok (.iload 4, 2) := by decide +kernel
theorem dX8_invocationError_63 : decode cX8_invocationError 63 = .ok (.iload 6, 2) := by decide +kernel
theorem dX8_invocationError_65 : decode cX8_invocationError 65 = .ok (.bipush 99, 2) := by decide +kernel
theorem dX8_invocationError_67 : decode cX8_invocationError 67 = .ok (.invokestatic 48, 3) := by decide +kernel
theorem dX8_invocationError_70 : decode cX8_invocationError 70 = .ok (.ifCond .eq 14, 3) := by decide +kernel
theorem dX8_invocationError_73 : decode cX8_invocationError 73 = .ok (.iload 5, 2) := by decide +kernel
theorem dX8_invocationError_75 : decode cX8_invocationError 75 = .ok (.iconst 0, 1) := by decide +kernel
theorem dX8_invocationError_76 : decode cX8_invocationError 76 = .ok (.bipush 99, 2) := by decide +kernel
theorem dX8_invocationError_78 : decode cX8_invocationError 78 = .ok (.invokestatic 48, 3) := by decide +kernel
theorem dX8_invocationError_81 : decode cX8_invocationError 81 = .ok (.ifCond .ne 6, 3) := by decide +kernel
theorem dX8_invocationError_84 : decode cX8_invocationError 84 = .ok (.bipush (-4), 2) := by decide +kernel
theorem dX8_invocationError_86 : decode cX8_invocationError 86 = .ok (.ireturn, 1) := by decide +kernel
theorem dX8_invocationError_87 : decode cX8_invocationError 87 = .ok (.aload_n 0, 1) := by decide +kernel
theorem dX8_invocationError_88 : decode cX8_invocationError 88 = .ok (.getfield 12, 3) := by decide +kernel
theorem dX8_invocationError_91 : decode cX8_invocationError 91 = .ok (.getfield 74, 3) := by decide +kernel
theorem dX8_invocationError_94 : decode cX8_invocationError 94 = .ok (.getfield 112, 3) := by decide +kernel
theorem dX8_invocationError_97 : decode cX8_invocationError 97 = .ok (.iload_n 2, 1) := by decide +kernel
theorem dX8_invocationError_98 : decode cX8_invocationError 98 = .ok (.baload, 1) := by decide +kernel
theorem dX8_invocationError_99 : decode cX8_invocationError 99 = .ok (.ifCond .eq 6, 3) := by decide +kernel
theorem dX8_invocationError_102 : decode cX8_invocationError 102 = .ok (.bipush (-5), 2) := by decide +kernel
theorem dX8_invocationError_104 : decode cX8_invocationError 104 = .ok (.ireturn, 1) := by decide +kernel
theorem dX8_invocationError_105 : decode cX8_invocationError 105 = .ok (.aload_n 0, 1) := by decide +kernel
theorem dX8_invocationError_106 : decode cX8_invocationError 106 = .ok (.getfield 12, 3) := by decide +kernel
theorem dX8_invocationError_109 : decode cX8_invocationError 109 = .ok (.getfield 74, 3) := by decide +kernel
theorem dX8_invocationError_112 : decode cX8_invocationError 112 = .ok (.getfield 93, 3) := by decide +kernel
theorem dX8_invocationError_115 : decode cX8_invocationError 115 = .ok (.iload_n 2, 1) := by decide +kernel
theorem dX8_invocationError_116 : decode cX8_invocationError 116 = .ok (.iaload, 1) := by decide +kernel
theorem dX8_invocationError_117 : decode cX8_invocationError 117 = .ok (.iconst (-1), 1) := by decide +kernel
theorem dX8_invocationError_118 : decode cX8_invocationError 118 = .ok (.if_icmp .eq 6, 3) := by decide +kernel
theorem dX8_invocationError_121 : decode cX8_invocationError 121 = .ok (.bipush (-6), 2) := by decide +kernel
theorem dX8_invocationError_123 : decode cX8_invocationError 123 = .ok (.ireturn, 1) := by decide +kernel
theorem dX8_invocationError_124 : decode cX8_invocationError 124 = .ok (.aload_n 0, 1) := by decide +kernel
theorem dX8_invocationError_125 : decode cX8_invocationError 125 = .ok (.getfield 12, 3) := by decide +kernel
theorem dX8_invocationError_128 : decode cX8_invocationError 128 = .ok (.getfield 74, 3) := by decide +kernel
theorem dX8_invocationError_131 : decode cX8_invocationError 131 = .ok (.getfield 123, 3) := by decide +kernel
theorem dX8_invocationError_134 : decode cX8_invocationError 134 = .ok (.bipush 10, 2) := by decide +kernel
theorem dX8_invocationError_136 : decode cX8_invocationError 136 = .ok (.if_icmp .lt 6, 3) := by decide +kernel
theorem dX8_invocationError_139 : decode cX8_invocationError 139 = .ok (.bipush (-8), 2) := by decide +kernel
theorem dX8_invocationError_141 : decode cX8_invocationError 141 = .ok (.ireturn, 1) := by decide +kernel
theorem dX8_invocationError_142 : decode cX8_invocationError 142 = .ok (.iconst 0, 1) := by decide +kernel
theorem dX8_invocationError_143 : decode cX8_invocationError 143 = .ok (.ireturn, 1) := by decide +kernel
theorem dX8_responseError_0 : decode cX8_responseError 0 = .ok (.aload_n 0, 1) := by decide +kernel
theorem dX8_responseError_1 : decode cX8_responseError 1 = .ok (.iload_n 1, 1) := by decide +kernel
theorem dX8_responseError_2 : decode cX8_responseError 2 = .ok (.invokevirtual 196, 3) := by decide +kernel
theorem dX8_responseError_5 : decode cX8_responseError 5 = .ok (.istore_n 3, 1) := by decide +kernel
theorem dX8_responseError_6 : decode cX8_responseError 6 = .ok (.iload_n 3, 1) := by decide +kernel
theorem dX8_responseError_7 : decode cX8_responseError 7 = .ok (.ifCond .eq 5, 3) := by decide +kernel
theorem dX8_responseError_10 : decode cX8_responseError 10 = .ok (.iload_n 3, 1) := by decide +kernel
theorem dX8_responseError_11 : decode cX8_responseError 11 = .ok (.ireturn, 1) := by decide +kernel
theorem dX8_responseError_12 : decode cX8_responseError 12 = .ok (.aload_n 0, 1) := by decide +kernel
theorem dX8_responseError_13 : decode cX8_responseError 13 = .ok (.getfield 12, 3) := by decide +kernel
theorem dX8_responseError_16 : decode cX8_responseError 16 = .ok (.getfield 74, 3) := by decide +kernel
theorem dX8_responseError_19 : decode cX8_responseError 19 = .ok (.getfield 127, 3) := by decide +kernel
theorem dX8_responseError_22 : decode cX8_responseError 22 = .ok (.aload_n 0, 1) := by decide +kernel
theorem dX8_responseError_23 : decode cX8_responseError 23 = .ok (.getfield 12, 3) := by decide +kernel
theorem dX8_responseError_26 : decode cX8_responseError 26 = .ok (.getfield 74, 3) := by decide +kernel
theorem dX8_responseError_29 : decode cX8_responseError 29 = .ok (.getfield 93, 3) := by decide +kernel
theorem dX8_responseError_32 : decode cX8_responseError 32 = .ok (.iload_n 1, 1) := by decide +kernel
theorem dX8_responseError_33 : decode cX8_responseError 33 = .ok (.iaload, 1) := by decide +kernel
theorem dX8_responseError_34 : decode cX8_responseError 34 = .ok (.iaload, 1) := by decide +kernel
theorem dX8_responseError_35 : decode cX8_responseError 35 = .ok (.istore 4, 2) := by decide +kernel
theorem dX8_responseError_37 : decode cX8_responseError 37 = .ok (.iload_n 2, 1) := by decide +kernel
theorem dX8_responseError_38 : decode cX8_responseError 38 = .ok (.iload 4, 2) := by decide +kernel
theorem dX8_responseError_40 : decode cX8_responseError 40 = .ok (.invokestatic 200, 3) := by decide +kernel
theorem dX8_responseError_43 : decode cX8_responseError 43 = .ok (.iload 4, 2) := by decide +kernel
theorem dX8_responseError_45 : decode cX8_responseError 45 = .ok (.invokestatic 203, 3) := by decide +kernel
theorem dX8_responseError_48 : decode cX8_responseError 48 = .ok (.invokestatic 48, 3) := by decide +kernel
theorem dX8_responseError_51 : decode cX8_responseError 51 = .ok (.ifCond .ne 6, 3) := by decide +kernel
theorem dX8_responseError_54 : decode cX8_responseError 54 = .ok (.bipush (-4), 2) := by decide +kernel
theorem dX8_responseError_56 : decode cX8_responseError 56 = .ok (.ireturn, 1) := by decide +kernel
theorem dX8_responseError_57 : decode cX8_responseError 57 = .ok (.iconst 0, 1) := by decide +kernel
theorem dX8_responseError_58 : decode cX8_responseError 58 = .ok (.ireturn, 1) := by decide +kernel
theorem dX8_waitingError_0 : decode cX8_waitingError 0 = .ok (.iload_n 1, 1) := by decide +kernel
theorem dX8_waitingError_1 : decode cX8_waitingError 1 = .ok (.invokestatic 109, 3) := by decide +kernel
theorem dX8_waitingError_4 : decode cX8_waitingError 4 = .ok (.ifCond .ne 5, 3) := by decide +kernel
theorem dX8_waitingError_7 : decode cX8_waitingError 7 = .ok (.iconst (-1), 1) := by decide +kernel
theorem dX8_waitingError_8 : decode cX8_waitingError 8 = .ok (.ireturn, 1) := by decide +kernel
theorem dX8_waitingError_9 : decode cX8_waitingError 9 = .ok (.aload_n 0, 1) := by decide +kernel
theorem dX8_waitingError_10 : decode cX8_waitingError 10 = .ok (.getfield 12, 3) := by decide +kernel
theorem dX8_waitingError_13 : decode cX8_waitingError 13 = .ok (.getfield 74, 3) := by decide +kernel
theorem dX8_waitingError_16 : decode cX8_waitingError 16 = .ok (.getfield 112, 3) := by decide +kernel
theorem dX8_waitingError_19 : decode cX8_waitingError 19 = .ok (.iload_n 1, 1) := by decide +kernel
theorem dX8_waitingError_20 : decode cX8_waitingError 20 = .ok (.baload, 1) := by decide +kernel
theorem dX8_waitingError_21 : decode cX8_waitingError 21 = .ok (.ifCond .eq 6, 3) := by decide +kernel
theorem dX8_waitingError_24 : decode cX8_waitingError 24 = .ok (.bipush (-5), 2) := by decide +kernel
theorem dX8_waitingError_26 : decode cX8_waitingError 26 = .ok (.ireturn, 1) := by decide +kernel
theorem dX8_waitingError_27 : decode cX8_waitingError 27 = .ok (.aload_n 0, 1) := by decide +kernel
theorem dX8_waitingError_28 : decode cX8_waitingError 28 = .ok (.getfield 12, 3) := by decide +kernel
theorem dX8_waitingError_31 : decode cX8_waitingError 31 = .ok (.getfield 74, 3) := by decide +kernel
theorem dX8_waitingError_34 : decode cX8_waitingError 34 = .ok (.aload_n 0, 1) := by decide +kernel
theorem dX8_waitingError_35 : decode cX8_waitingError 35 = .ok (.getfield 12, 3) := by decide +kernel
theorem dX8_waitingError_38 : decode cX8_waitingError 38 = .ok (.getfield 74, 3) := by decide +kernel
theorem dX8_waitingError_41 : decode cX8_waitingError 41 = .ok (.getfield 93, 3) := by decide +kernel
theorem dX8_waitingError_44 : decode cX8_waitingError 44 = .ok (.iload_n 1, 1) := by decide +kernel
theorem dX8_waitingError_45 : decode cX8_waitingError 45 = .ok (.iaload, 1) := by decide +kernel
theorem dX8_waitingError_46 : decode cX8_waitingError 46 = .ok (.invokevirtual 126, 3) := by decide +kernel
theorem dX8_waitingError_49 : decode cX8_waitingError 49 = .ok (.ifCond .ne 6, 3) := by decide +kernel
theorem dX8_waitingError_52 : decode cX8_waitingError 52 = .ok (.bipush (-7), 2) := by decide +kernel
theorem dX8_waitingError_54 : decode cX8_waitingError 54 = .ok (.ireturn, 1) := by decide +kernel
theorem dX8_waitingError_55 : decode cX8_waitingError 55 = .ok (.iconst 0, 1) := by decide +kernel
theorem dX8_waitingError_56 : decode cX8_waitingError 56 = .ok (.ireturn, 1) := by decide +kernel
theorem dX8_prepareWholeHistory_0 : decode cX8_prepareWholeHistory 0 = .ok (.aload_n 0, 1) := by decide +kernel
theorem dX8_prepareWholeHistory_1 : decode cX8_prepareWholeHistory 1 = .ok (.getfield 24, 3) := by decide +kernel
theorem dX8_prepareWholeHistory_4 : decode cX8_prepareWholeHistory 4 = .ok (.aload_n 0, 1) := by decide +kernel
theorem dX8_prepareWholeHistory_5 : decode cX8_prepareWholeHistory 5 = .ok (.getfield 12, 3) := by decide +kernel
theorem dX8_prepareWholeHistory_8 : decode cX8_prepareWholeHistory 8 = .ok (.getfield 74, 3) := by decide +kernel
theorem dX8_prepareWholeHistory_11 : decode cX8_prepareWholeHistory 11 = .ok (.getfield 78, 3) := by decide +kernel
theorem dX8_prepareWholeHistory_14 : decode cX8_prepareWholeHistory 14 = .ok (.iconst (-1), 1) := by decide +kernel
theorem dX8_prepareWholeHistory_15 : decode cX8_prepareWholeHistory 15 = .ok (.invokevirtual 165, 3) := by decide +kernel
theorem dX8_prepareWholeHistory_18 : decode cX8_prepareWholeHistory 18 = .ok (.aload_n 0, 1) := by decide +kernel
theorem dX8_prepareWholeHistory_19 : decode cX8_prepareWholeHistory 19 = .ok (.getfield 24, 3) := by decide +kernel
theorem dX8_prepareWholeHistory_22 : decode cX8_prepareWholeHistory 22 = .ok (.invokevirtual 168, 3) := by decide +kernel
theorem dX8_prepareWholeHistory_25 : decode cX8_prepareWholeHistory 25 = .ok (.return_, 1) := by decide +kernel
theorem dX8_isPrefixLinearizable_0 : decode cX8_isPrefixLinearizable 0 = .ok (.aload_n 0, 1) := by decide +kernel
theorem dX8_isPrefixLinearizable_1 : decode cX8_isPrefixLinearizable 1 = .ok (.getfield 24, 3) := by decide +kernel
theorem dX8_isPrefixLinearizable_4 : decode cX8_isPrefixLinearizable 4 = .ok (.iload_n 1, 1) := by decide +kernel
theorem dX8_isPrefixLinearizable_5 : decode cX8_isPrefixLinearizable 5 = .ok (.iconst (-1), 1) := by decide +kernel
theorem dX8_isPrefixLinearizable_6 : decode cX8_isPrefixLinearizable 6 = .ok (.invokevirtual 165, 3) := by decide +kernel
theorem dX8_isPrefixLinearizable_9 : decode cX8_isPrefixLinearizable 9 = .ok (.aload_n 0, 1) := by decide +kernel
theorem dX8_isPrefixLinearizable_10 : decode cX8_isPrefixLinearizable 10 = .ok (.getfield 24, 3) := by decide +kernel
theorem dX8_isPrefixLinearizable_13 : decode cX8_isPrefixLinearizable 13 = .ok (.invokevirtual 168, 3) := by decide +kernel
theorem dX8_isPrefixLinearizable_16 : decode cX8_isPrefixLinearizable 16 = .ok (.aload_n 0, 1) := by decide +kernel
theorem dX8_isPrefixLinearizable_17 : decode cX8_isPrefixLinearizable 17 = .ok (.getfield 24, 3) := by decide +kernel
theorem dX8_isPrefixLinearizable_20 : decode cX8_isPrefixLinearizable 20 = .ok (.invokevirtual 171, 3) := by decide +kernel
theorem dX8_isPrefixLinearizable_23 : decode cX8_isPrefixLinearizable 23 = .ok (.ireturn, 1) := by decide +kernel
theorem dX8_execute_0 : decode cX8_execute 0 = .ok (.aload_n 0, 1) := by decide +kernel
theorem dX8_execute_1 : decode cX8_execute 1 = .ok (.getfield 40, 3) := by decide +kernel
theorem dX8_execute_4 : decode cX8_execute 4 = .ok (.getfield 266, 3) := by decide +kernel
theorem dX8_execute_7 : decode cX8_execute 7 = .ok (.iload_n 1, 1) := by decide +kernel
theorem dX8_execute_8 : decode cX8_execute 8 = .ok (.iaload, 1) := by decide +kernel
theorem dX8_execute_9 : decode cX8_execute 9 = .ok (.istore_n 2, 1) := by decide +kernel
theorem dX8_execute_10 : decode cX8_execute 10 = .ok (.aload_n 0, 1) := by decide +kernel
theorem dX8_execute_11 : decode cX8_execute 11 = .ok (.getfield 40, 3) := by decide +kernel
theorem dX8_execute_14 : decode cX8_execute 14 = .ok (.getfield 267, 3) := by decide +kernel
theorem dX8_execute_17 : decode cX8_execute 17 = .ok (.iload_n 1, 1) := by decide +kernel
theorem dX8_execute_18 : decode cX8_execute 18 = .ok (.iaload, 1) := by decide +kernel
theorem dX8_execute_19 : decode cX8_execute 19 = .ok (.istore_n 3, 1) := by decide +kernel
theorem dX8_execute_20 : decode cX8_execute 20 = .ok (.aload_n 0, 1) := by decide +kernel
theorem dX8_execute_21 : decode cX8_execute 21 = .ok (.getfield 40, 3) := by decide +kernel
theorem dX8_execute_24 : decode cX8_execute 24 = .ok (.getfield 270, 3) := by decide +kernel
theorem dX8_execute_27 : decode cX8_execute 27 = .ok (.iload_n 1, 1) := by decide +kernel
theorem dX8_execute_28 : decode cX8_execute 28 = .ok (.iaload, 1) := by decide +kernel
theorem dX8_execute_29 : decode cX8_execute 29 = .ok (.istore 4, 2) := by decide +kernel
theorem dX8_execute_31 : decode cX8_execute 31 = .ok (.aload_n 0, 1) := by decide +kernel
theorem dX8_execute_32 : decode cX8_execute 32 = .ok (.getfield 40, 3) := by decide +kernel
theorem dX8_execute_35 : decode cX8_execute 35 = .ok (.getfield 273, 3) := by decide +kernel
theorem dX8_execute_38 : decode cX8_execute 38 = .ok (.iload_n 1, 1) := by decide +kernel
theorem dX8_execute_39 : decode cX8_execute 39 = .ok (.iaload, 1) := by decide +kernel
theorem dX8_execute_40 : decode cX8_execute 40 = .ok (.lookupswitch 41 #[(1, 28), (2, 35)], 28) := by decide +kernel
theorem dX8_execute_68 : decode cX8_execute 68 = .ok (.aload_n 0, 1) := by decide +kernel
theorem dX8_execute_69 : decode cX8_execute 69 = .ok (.iload_n 2, 1) := by decide +kernel
theorem dX8_execute_70 : decode cX8_execute 70 = .ok (.iload_n 3, 1) := by decide +kernel
theorem dX8_execute_71 : decode cX8_execute 71 = .ok (.invokevirtual 276, 3) := by decide +kernel
theorem dX8_execute_74 : decode cX8_execute 74 = .ok (.ireturn, 1) := by decide +kernel
theorem dX8_execute_75 : decode cX8_execute 75 = .ok (.aload_n 0, 1) := by decide +kernel
theorem dX8_execute_76 : decode cX8_execute 76 = .ok (.iload_n 2, 1) := by decide +kernel
theorem dX8_execute_77 : decode cX8_execute 77 = .ok (.invokevirtual 279, 3) := by decide +kernel
theorem dX8_execute_80 : decode cX8_execute 80 = .ok (.ireturn, 1) := by decide +kernel
theorem dX8_execute_81 : decode cX8_execute 81 = .ok (.aload_n 0, 1) := by decide +kernel
theorem dX8_execute_82 : decode cX8_execute 82 = .ok (.aload_n 0, 1) := by decide +kernel
theorem dX8_execute_83 : decode cX8_execute 83 = .ok (.getfield 40, 3) := by decide +kernel
theorem dX8_execute_86 : decode cX8_execute 86 = .ok (.getfield 282, 3) := by decide +kernel
theorem dX8_execute_89 : decode cX8_execute 89 = .ok (.iload_n 1, 1) := by decide +kernel
theorem dX8_execute_90 : decode cX8_execute 90 = .ok (.iaload, 1) := by decide +kernel
theorem dX8_execute_91 : decode cX8_execute 91 = .ok (.iload_n 2, 1) := by decide +kernel
theorem dX8_execute_92 : decode cX8_execute 92 = .ok (.aload_n 0, 1) := by decide +kernel
theorem dX8_execute_93 : decode cX8_execute 93 = .ok (.getfield 40, 3) := by decide +kernel
theorem dX8_execute_96 : decode cX8_execute 96 = .ok (.getfield 283, 3) := by decide +kernel
theorem dX8_execute_99 : decode cX8_execute 99 = .ok (.iload_n 1, 1) := by decide +kernel
theorem dX8_execute_100 : decode cX8_execute 100 = .ok (.iaload, 1) := by decide +kernel
theorem dX8_execute_101 : decode cX8_execute 101 = .ok (.iload_n 3, 1) := by decide +kernel
theorem dX8_execute_102 : decode cX8_execute 102 = .ok (.iload 4, 2) := by decide +kernel
theorem dX8_execute_104 : decode cX8_execute 104 = .ok (.invokevirtual 86, 3) := by decide +kernel
theorem dX8_execute_107 : decode cX8_execute 107 = .ok (.ireturn, 1) := by decide +kernel
theorem dX8_isBetween_0 : decode cX8_isBetween 0 = .ok (.iload_n 0, 1) := by decide +kernel
theorem dX8_isBetween_1 : decode cX8_isBetween 1 = .ok (.iload_n 1, 1) := by decide +kernel
theorem dX8_isBetween_2 : decode cX8_isBetween 2 = .ok (.if_icmp .lt 12, 3) := by decide +kernel
theorem dX8_isBetween_5 : decode cX8_isBetween 5 = .ok (.iload_n 0, 1) := by decide +kernel
theorem dX8_isBetween_6 : decode cX8_isBetween 6 = .ok (.iload_n 2, 1) := by decide +kernel
theorem dX8_isBetween_7 : decode cX8_isBetween 7 = .ok (.if_icmp .gt 7, 3) := by decide +kernel
theorem dX8_isBetween_10 : decode cX8_isBetween 10 = .ok (.iconst 1, 1) := by decide +kernel
theorem dX8_isBetween_11 : decode cX8_isBetween 11 = .ok (.goto 4, 3) := by decide +kernel
theorem dX8_isBetween_14 : decode cX8_isBetween 14 = .ok (.iconst 0, 1) := by decide +kernel
theorem dX8_isBetween_15 : decode cX8_isBetween 15 = .ok (.ireturn, 1) := by decide +kernel
theorem dX8_isThread_0 : decode cX8_isThread 0 = .ok (.iload_n 0, 1) := by decide +kernel
theorem dX8_isThread_1 : decode cX8_isThread 1 = .ok (.iconst 0, 1) := by decide +kernel
theorem dX8_isThread_2 : decode cX8_isThread 2 = .ok (.iconst 3, 1) := by decide +kernel
theorem dX8_isThread_3 : decode cX8_isThread 3 = .ok (.invokestatic 48, 3) := by decide +kernel
theorem dX8_isThread_6 : decode cX8_isThread 6 = .ok (.ireturn, 1) := by decide +kernel
theorem dX8_truth_0 : decode cX8_truth 0 = .ok (.iload_n 0, 1) := by decide +kernel
theorem dX8_truth_1 : decode cX8_truth 1 = .ok (.ifCond .eq 7, 3) := by decide +kernel
theorem dX8_truth_4 : decode cX8_truth 4 = .ok (.iconst 1, 1) := by decide +kernel
theorem dX8_truth_5 : decode cX8_truth 5 = .ok (.goto 4, 3) := by decide +kernel
theorem dX8_truth_8 : decode cX8_truth 8 = .ok (.iconst 0, 1) := by decide +kernel
theorem dX8_truth_9 : decode cX8_truth 9 = .ok (.ireturn, 1) := by decide +kernel
theorem dX8_requiredType_0 : decode cX8_requiredType 0 = .ok (.iload_n 0, 1) := by decide +kernel
theorem dX8_requiredType_1 : decode cX8_requiredType 1 = .ok (.tableswitch 49 0 6 #[43, 43, 43, 45, 45, 47, 47], 43) := by decide +kernel
theorem dX8_requiredType_44 : decode cX8_requiredType 44 = .ok (.iconst 0, 1) := by decide +kernel
theorem dX8_requiredType_45 : decode cX8_requiredType 45 = .ok (.ireturn, 1) := by decide +kernel
theorem dX8_requiredType_46 : decode cX8_requiredType 46 = .ok (.iconst 1, 1) := by decide +kernel
theorem dX8_requiredType_47 : decode cX8_requiredType 47 = .ok (.ireturn, 1) := by decide +kernel
theorem dX8_requiredType_48 : decode cX8_requiredType 48 = .ok (.iconst 2, 1) := by decide +kernel
theorem dX8_requiredType_49 : decode cX8_requiredType 49 = .ok (.ireturn, 1) := by decide +kernel
theorem dX8_requiredType_50 : decode cX8_requiredType 50 = .ok (.iconst 3, 1) := by decide +kernel
theorem dX8_requiredType_51 : decode cX8_requiredType 51 = .ok (.ireturn, 1) := by decide +kernel
theorem dX8_lowestResult_0 : decode cX8_lowestResult 0 = .ok (.iload_n 0, 1) := by decide +kernel
theorem dX8_lowestResult_1 : decode cX8_lowestResult 1 = .ok (.tableswitch 37 3 6 #[31, 31, 37, 35], 31) := by decide +kernel
theorem dX8_lowestResult_32 : decode cX8_lowestResult 32 = .ok (.sipush (-999), 3) := by decide +kernel
theorem dX8_lowestResult_35 : decode cX8_lowestResult 35 = .ok (.ireturn, 1) := by decide +kernel
theorem dX8_lowestResult_36 : decode cX8_lowestResult 36 = .ok (.iconst (-1), 1) := by decide +kernel
theorem dX8_lowestResult_37 : decode cX8_lowestResult 37 = .ok (.ireturn, 1) := by decide +kernel
theorem dX8_lowestResult_38 : decode cX8_lowestResult 38 = .ok (.iconst 0, 1) := by decide +kernel
theorem dX8_lowestResult_39 : decode cX8_lowestResult 39 = .ok (.ireturn, 1) := by decide +kernel
theorem dX8_highestResult_0 : decode cX8_highestResult 0 = .ok (.iload_n 0, 1) := by decide +kernel
theorem dX8_highestResult_1 : decode cX8_highestResult 1 = .ok (.tableswitch 52 0 6 #[43, 46, 52, 48, 48, 46, 43], 43) := by decide +kernel
theorem dX8_highestResult_44 : decode cX8_highestResult 44 = .ok (.bipush 99, 2) := by decide +kernel
theorem dX8_highestResult_46 : decode cX8_highestResult 46 = .ok (.ireturn, 1) := by decide +kernel
theorem dX8_highestResult_47 : decode cX8_highestResult 47 = .ok (.iconst 0, 1) := by decide +kernel
theorem dX8_highestResult_48 : decode cX8_highestResult 48 = .ok (.ireturn, 1) := by decide +kernel
theorem dX8_highestResult_49 : decode cX8_highestResult 49 = .ok (.sipush 999, 3) := by decide +kernel
theorem dX8_highestResult_52 : decode cX8_highestResult 52 = .ok (.ireturn, 1) := by decide +kernel
theorem dX8_highestResult_53 : decode cX8_highestResult 53 = .ok (.iconst 1, 1) := by decide +kernel
theorem dX8_highestResult_54 : decode cX8_highestResult 54 = .ok (.ireturn, 1) := by decide +kernel
theorem dX8_argumentCount_0 : decode cX8_argumentCount 0 = .ok (.iload_n 0, 1) := by decide +kernel
theorem dX8_argumentCount_1 : decode cX8_argumentCount 1 = .ok (.tableswitch 47 0 6 #[43, 47, 45, 43, 47, 47, 43], 43) := by decide +kernel
theorem dX8_argumentCount_44 : decode cX8_argumentCount 44 = .ok (.iconst 0, 1) := by decide +kernel
theorem dX8_argumentCount_45 : decode cX8_argumentCount 45 = .ok (.ireturn, 1) := by decide +kernel
theorem dX8_argumentCount_46 : decode cX8_argumentCount 46 = .ok (.iconst 2, 1) := by decide +kernel
theorem dX8_argumentCount_47 : decode cX8_argumentCount 47 = .ok (.ireturn, 1) := by decide +kernel
theorem dX8_argumentCount_48 : decode cX8_argumentCount 48 = .ok (.iconst 1, 1) := by decide +kernel
theorem dX8_argumentCount_49 : decode cX8_argumentCount 49 = .ok (.ireturn, 1) := by decide +kernel
theorem dX8_nameOf_0 : decode cX8_nameOf 0 = .ok (.iload_n 0, 1) := by decide +kernel
theorem dX8_nameOf_1 : decode cX8_nameOf 1 = .ok (.tableswitch 87 0 8 #[51, 55, 59, 63, 67, 71, 75, 79, 83], 51) := by decide +kernel
theorem dX8_nameOf_52 : decode cX8_nameOf 52 = .ok (.ldc_w 284, 3) := by decide +kernel
theorem dX8_nameOf_55 : decode cX8_nameOf 55 = .ok (.areturn, 1) := by decide +kernel
theorem dX8_nameOf_56 : decode cX8_nameOf 56 = .ok (.ldc_w 286, 3) := by decide +kernel
theorem dX8_nameOf_59 : decode cX8_nameOf 59 = .ok (.areturn, 1) := by decide +kernel
theorem dX8_nameOf_60 : decode cX8_nameOf 60 = .ok (.ldc_w 288, 3) := by decide +kernel
theorem dX8_nameOf_63 : decode cX8_nameOf 63 = .ok (.areturn, 1) := by decide +kernel
theorem dX8_nameOf_64 : decode cX8_nameOf 64 = .ok (.ldc_w 290, 3) := by decide +kernel
theorem dX8_nameOf_67 : decode cX8_nameOf 67 = .ok (.areturn, 1) := by decide +kernel
theorem dX8_nameOf_68 : decode cX8_nameOf 68 = .ok (.ldc_w 292, 3) := by decide +kernel
theorem dX8_nameOf_71 : decode cX8_nameOf 71 = .ok (.areturn, 1) := by decide +kernel
theorem dX8_nameOf_72 : decode cX8_nameOf 72 = .ok (.ldc_w 294, 3) := by decide +kernel
theorem dX8_nameOf_75 : decode cX8_nameOf 75 = .ok (.areturn, 1) := by decide +kernel
theorem dX8_nameOf_76 : decode cX8_nameOf 76 = .ok (.ldc_w 296, 3) := by decide +kernel
theorem dX8_nameOf_79 : decode cX8_nameOf 79 = .ok (.areturn, 1) := by decide +kernel
theorem dX8_nameOf_80 : decode cX8_nameOf 80 = .ok (.ldc_w 298, 3) := by decide +kernel
theorem dX8_nameOf_83 : decode cX8_nameOf 83 = .ok (.areturn, 1) := by decide +kernel
theorem dX8_nameOf_84 : decode cX8_nameOf 84 = .ok (.ldc_w 300, 3) := by decide +kernel
theorem dX8_nameOf_87 : decode cX8_nameOf 87 = .ok (.areturn, 1) := by decide +kernel
theorem dX8_nameOf_88 : decode cX8_nameOf 88 = .ok (.ldc_w 302, 3) := by decide +kernel
theorem dX8_nameOf_91 : decode cX8_nameOf 91 = .ok (.areturn, 1) := by decide +kernel
