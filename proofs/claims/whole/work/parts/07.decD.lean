theorem dX9_takeBack_53 : decode cX9_takeBack 53 = .ok (.getfield 64, 3) := by decide +kernel
theorem dX9_takeBack_56 : decode cX9_takeBack 56 = .ok (.iload 4, 2) := by decide +kernel
theorem dX9_takeBack_58 : decode cX9_takeBack 58 = .ok (.dup2, 1) := by decide +kernel
theorem dX9_takeBack_59 : decode cX9_takeBack 59 = .ok (.iaload, 1) := by decide +kernel
theorem dX9_takeBack_60 : decode cX9_takeBack 60 = .ok (.iconst 1, 1) := by decide +kernel
theorem dX9_takeBack_61 : decode cX9_takeBack 61 = .ok (.isub, 1) := by decide +kernel
theorem dX9_takeBack_62 : decode cX9_takeBack 62 = .ok (.iastore, 1) := by decide +kernel
theorem dX9_takeBack_63 : decode cX9_takeBack 63 = .ok (.goto 85, 3) := by decide +kernel
theorem dX9_takeBack_66 : decode cX9_takeBack 66 = .ok (.aload_n 0, 1) := by decide +kernel
theorem dX9_takeBack_67 : decode cX9_takeBack 67 = .ok (.getfield 61, 3) := by decide +kernel
theorem dX9_takeBack_70 : decode cX9_takeBack 70 = .ok (.iload 4, 2) := by decide +kernel
theorem dX9_takeBack_72 : decode cX9_takeBack 72 = .ok (.dup2, 1) := by decide +kernel
theorem dX9_takeBack_73 : decode cX9_takeBack 73 = .ok (.iaload, 1) := by decide +kernel
theorem dX9_takeBack_74 : decode cX9_takeBack 74 = .ok (.iload_n 3, 1) := by decide +kernel
theorem dX9_takeBack_75 : decode cX9_takeBack 75 = .ok (.iconst (-1), 1) := by decide +kernel
theorem dX9_takeBack_76 : decode cX9_takeBack 76 = .ok (.if_icmp .ne 7, 3) := by decide +kernel
theorem dX9_takeBack_79 : decode cX9_takeBack 79 = .ok (.iconst 0, 1) := by decide +kernel
theorem dX9_takeBack_80 : decode cX9_takeBack 80 = .ok (.goto 4, 3) := by decide +kernel
theorem dX9_takeBack_83 : decode cX9_takeBack 83 = .ok (.iconst 1, 1) := by decide +kernel
theorem dX9_takeBack_84 : decode cX9_takeBack 84 = .ok (.isub, 1) := by decide +kernel
theorem dX9_takeBack_85 : decode cX9_takeBack 85 = .ok (.iastore, 1) := by decide +kernel
theorem dX9_takeBack_86 : decode cX9_takeBack 86 = .ok (.goto 62, 3) := by decide +kernel
theorem dX9_takeBack_89 : decode cX9_takeBack 89 = .ok (.aload_n 0, 1) := by decide +kernel
theorem dX9_takeBack_90 : decode cX9_takeBack 90 = .ok (.getfield 67, 3) := by decide +kernel
theorem dX9_takeBack_93 : decode cX9_takeBack 93 = .ok (.bipush 100, 2) := by decide +kernel
theorem dX9_takeBack_95 : decode cX9_takeBack 95 = .ok (.iload 4, 2) := by decide +kernel
theorem dX9_takeBack_97 : decode cX9_takeBack 97 = .ok (.imul, 1) := by decide +kernel
theorem dX9_takeBack_98 : decode cX9_takeBack 98 = .ok (.aload_n 0, 1) := by decide +kernel
theorem dX9_takeBack_99 : decode cX9_takeBack 99 = .ok (.getfield 25, 3) := by decide +kernel
theorem dX9_takeBack_102 : decode cX9_takeBack 102 = .ok (.iload_n 1, 1) := by decide +kernel
theorem dX9_takeBack_103 : decode cX9_takeBack 103 = .ok (.iaload, 1) := by decide +kernel
theorem dX9_takeBack_104 : decode cX9_takeBack 104 = .ok (.iadd, 1) := by decide +kernel
theorem dX9_takeBack_105 : decode cX9_takeBack 105 = .ok (.iload_n 3, 1) := by decide +kernel
theorem dX9_takeBack_106 : decode cX9_takeBack 106 = .ok (.ifCond .ne 7, 3) := by decide +kernel
theorem dX9_takeBack_109 : decode cX9_takeBack 109 = .ok (.iconst 1, 1) := by decide +kernel
theorem dX9_takeBack_110 : decode cX9_takeBack 110 = .ok (.goto 4, 3) := by decide +kernel
theorem dX9_takeBack_113 : decode cX9_takeBack 113 = .ok (.iconst 0, 1) := by decide +kernel
theorem dX9_takeBack_114 : decode cX9_takeBack 114 = .ok (.bastore, 1) := by decide +kernel
theorem dX9_takeBack_115 : decode cX9_takeBack 115 = .ok (.goto 33, 3) := by decide +kernel
theorem dX9_takeBack_118 : decode cX9_takeBack 118 = .ok (.aload_n 0, 1) := by decide +kernel
theorem dX9_takeBack_119 : decode cX9_takeBack 119 = .ok (.getfield 67, 3) := by decide +kernel
theorem dX9_takeBack_122 : decode cX9_takeBack 122 = .ok (.bipush 100, 2) := by decide +kernel
theorem dX9_takeBack_124 : decode cX9_takeBack 124 = .ok (.iload 4, 2) := by decide +kernel
theorem dX9_takeBack_126 : decode cX9_takeBack 126 = .ok (.imul, 1) := by decide +kernel
theorem dX9_takeBack_127 : decode cX9_takeBack 127 = .ok (.aload_n 0, 1) := by decide +kernel
theorem dX9_takeBack_128 : decode cX9_takeBack 128 = .ok (.getfield 25, 3) := by decide +kernel
theorem dX9_takeBack_131 : decode cX9_takeBack 131 = .ok (.iload_n 1, 1) := by decide +kernel
theorem dX9_takeBack_132 : decode cX9_takeBack 132 = .ok (.iaload, 1) := by decide +kernel
theorem dX9_takeBack_133 : decode cX9_takeBack 133 = .ok (.iadd, 1) := by decide +kernel
theorem dX9_takeBack_134 : decode cX9_takeBack 134 = .ok (.iload_n 3, 1) := by decide +kernel
theorem dX9_takeBack_135 : decode cX9_takeBack 135 = .ok (.iconst 1, 1) := by decide +kernel
theorem dX9_takeBack_136 : decode cX9_takeBack 136 = .ok (.if_icmp .ne 7, 3) := by decide +kernel
theorem dX9_takeBack_139 : decode cX9_takeBack 139 = .ok (.iconst 1, 1) := by decide +kernel
theorem dX9_takeBack_140 : decode cX9_takeBack 140 = .ok (.goto 4, 3) := by decide +kernel
theorem dX9_takeBack_143 : decode cX9_takeBack 143 = .ok (.iconst 0, 1) := by decide +kernel
theorem dX9_takeBack_144 : decode cX9_takeBack 144 = .ok (.bastore, 1) := by decide +kernel
theorem dX9_takeBack_145 : decode cX9_takeBack 145 = .ok (.goto 3, 3) := by decide +kernel
theorem dX9_takeBack_148 : decode cX9_takeBack 148 = .ok (.return_, 1) := by decide +kernel
theorem dX9_isThere_0 : decode cX9_isThere 0 = .ok (.aload_n 0, 1) := by decide +kernel
theorem dX9_isThere_1 : decode cX9_isThere 1 = .ok (.getfield 31, 3) := by decide +kernel
theorem dX9_isThere_4 : decode cX9_isThere 4 = .ok (.iload_n 1, 1) := by decide +kernel
theorem dX9_isThere_5 : decode cX9_isThere 5 = .ok (.iaload, 1) := by decide +kernel
theorem dX9_isThere_6 : decode cX9_isThere 6 = .ok (.aload_n 0, 1) := by decide +kernel
theorem dX9_isThere_7 : decode cX9_isThere 7 = .ok (.getfield 166, 3) := by decide +kernel
theorem dX9_isThere_10 : decode cX9_isThere 10 = .ok (.if_icmp .ge 29, 3) := by decide +kernel
theorem dX9_isThere_13 : decode cX9_isThere 13 = .ok (.aload_n 0, 1) := by decide +kernel
theorem dX9_isThere_14 : decode cX9_isThere 14 = .ok (.getfield 169, 3) := by decide +kernel
theorem dX9_isThere_17 : decode cX9_isThere 17 = .ok (.bipush (-10), 2) := by decide +kernel
theorem dX9_isThere_19 : decode cX9_isThere 19 = .ok (.if_icmp .eq 16, 3) := by decide +kernel
theorem dX9_isThere_22 : decode cX9_isThere 22 = .ok (.aload_n 0, 1) := by decide +kernel
theorem dX9_isThere_23 : decode cX9_isThere 23 = .ok (.getfield 22, 3) := by decide +kernel
theorem dX9_isThere_26 : decode cX9_isThere 26 = .ok (.iload_n 1, 1) := by decide +kernel
theorem dX9_isThere_27 : decode cX9_isThere 27 = .ok (.iaload, 1) := by decide +kernel
theorem dX9_isThere_28 : decode cX9_isThere 28 = .ok (.aload_n 0, 1) := by decide +kernel
theorem dX9_isThere_29 : decode cX9_isThere 29 = .ok (.getfield 169, 3) := by decide +kernel
theorem dX9_isThere_32 : decode cX9_isThere 32 = .ok (.if_icmp .ne 7, 3) := by decide +kernel
theorem dX9_isThere_35 : decode cX9_isThere 35 = .ok (.iconst 1, 1) := by decide +kernel
theorem dX9_isThere_36 : decode cX9_isThere 36 = .ok (.goto 4, 3) := by decide +kernel
theorem dX9_isThere_39 : decode cX9_isThere 39 = .ok (.iconst 0, 1) := by decide +kernel
theorem dX9_isThere_40 : decode cX9_isThere 40 = .ok (.ireturn, 1) := by decide +kernel
theorem dX9_isComplete_0 : decode cX9_isComplete 0 = .ok (.aload_n 0, 1) := by decide +kernel
theorem dX9_isComplete_1 : decode cX9_isComplete 1 = .ok (.getfield 34, 3) := by decide +kernel
theorem dX9_isComplete_4 : decode cX9_isComplete 4 = .ok (.iload_n 1, 1) := by decide +kernel
theorem dX9_isComplete_5 : decode cX9_isComplete 5 = .ok (.iaload, 1) := by decide +kernel
theorem dX9_isComplete_6 : decode cX9_isComplete 6 = .ok (.iconst (-1), 1) := by decide +kernel
theorem dX9_isComplete_7 : decode cX9_isComplete 7 = .ok (.if_icmp .eq 20, 3) := by decide +kernel
theorem dX9_isComplete_10 : decode cX9_isComplete 10 = .ok (.aload_n 0, 1) := by decide +kernel
theorem dX9_isComplete_11 : decode cX9_isComplete 11 = .ok (.getfield 34, 3) := by decide +kernel
theorem dX9_isComplete_14 : decode cX9_isComplete 14 = .ok (.iload_n 1, 1) := by decide +kernel
theorem dX9_isComplete_15 : decode cX9_isComplete 15 = .ok (.iaload, 1) := by decide +kernel
theorem dX9_isComplete_16 : decode cX9_isComplete 16 = .ok (.aload_n 0, 1) := by decide +kernel
theorem dX9_isComplete_17 : decode cX9_isComplete 17 = .ok (.getfield 166, 3) := by decide +kernel
theorem dX9_isComplete_20 : decode cX9_isComplete 20 = .ok (.if_icmp .ge 7, 3) := by decide +kernel
theorem dX9_isComplete_23 : decode cX9_isComplete 23 = .ok (.iconst 1, 1) := by decide +kernel
theorem dX9_isComplete_24 : decode cX9_isComplete 24 = .ok (.goto 4, 3) := by decide +kernel
theorem dX9_isComplete_27 : decode cX9_isComplete 27 = .ok (.iconst 0, 1) := by decide +kernel
theorem dX9_isComplete_28 : decode cX9_isComplete 28 = .ok (.ireturn, 1) := by decide +kernel
theorem dX9_isReady_0 : decode cX9_isReady 0 = .ok (.iconst 1, 1) := by decide +kernel
theorem dX9_isReady_1 : decode cX9_isReady 1 = .ok (.istore_n 3, 1) := by decide +kernel
theorem dX9_isReady_2 : decode cX9_isReady 2 = .ok (.iconst 0, 1) := by decide +kernel
theorem dX9_isReady_3 : decode cX9_isReady 3 = .ok (.istore 4, 2) := by decide +kernel
theorem dX9_isReady_5 : decode cX9_isReady 5 = .ok (.iload 4, 2) := by decide +kernel
theorem dX9_isReady_7 : decode cX9_isReady 7 = .ok (.aload_n 0, 1) := by decide +kernel
theorem dX9_isReady_8 : decode cX9_isReady 8 = .ok (.getfield 101, 3) := by decide +kernel
theorem dX9_isReady_11 : decode cX9_isReady 11 = .ok (.if_icmp .ge 89, 3) := by decide +kernel
theorem dX9_isReady_14 : decode cX9_isReady 14 = .ok (.aload_n 0, 1) := by decide +kernel
theorem dX9_isReady_15 : decode cX9_isReady 15 = .ok (.getfield 172, 3) := by decide +kernel
theorem dX9_isReady_18 : decode cX9_isReady 18 = .ok (.ifCond .eq 33, 3) := by decide +kernel
theorem dX9_isReady_21 : decode cX9_isReady 21 = .ok (.aload_n 0, 1) := by decide +kernel
theorem dX9_isReady_22 : decode cX9_isReady 22 = .ok (.getfield 19, 3) := by decide +kernel
theorem dX9_isReady_25 : decode cX9_isReady 25 = .ok (.iload 4, 2) := by decide +kernel
theorem dX9_isReady_27 : decode cX9_isReady 27 = .ok (.iaload, 1) := by decide +kernel
theorem dX9_isReady_28 : decode cX9_isReady 28 = .ok (.aload_n 0, 1) := by decide +kernel
theorem dX9_isReady_29 : decode cX9_isReady 29 = .ok (.getfield 19, 3) := by decide +kernel
theorem dX9_isReady_32 : decode cX9_isReady 32 = .ok (.iload_n 1, 1) := by decide +kernel
theorem dX9_isReady_33 : decode cX9_isReady 33 = .ok (.iaload, 1) := by decide +kernel
theorem dX9_isReady_34 : decode cX9_isReady 34 = .ok (.if_icmp .ne 13, 3) := by decide +kernel
theorem dX9_isReady_37 : decode cX9_isReady 37 = .ok (.iload 4, 2) := by decide +kernel
theorem dX9_isReady_39 : decode cX9_isReady 39 = .ok (.iload_n 1, 1) := by decide +kernel
theorem dX9_isReady_40 : decode cX9_isReady 40 = .ok (.if_icmp .ge 7, 3) := by decide +kernel
theorem dX9_isReady_43 : decode cX9_isReady 43 = .ok (.iconst 1, 1) := by decide +kernel
theorem dX9_isReady_44 : decode cX9_isReady 44 = .ok (.goto 14, 3) := by decide +kernel
theorem dX9_isReady_47 : decode cX9_isReady 47 = .ok (.iconst 0, 1) := by decide +kernel
theorem dX9_isReady_48 : decode cX9_isReady 48 = .ok (.goto 10, 3) := by decide +kernel
theorem dX9_isReady_51 : decode cX9_isReady 51 = .ok (.aload_n 0, 1) := by decide +kernel
theorem dX9_isReady_52 : decode cX9_isReady 52 = .ok (.iload 4, 2) := by decide +kernel
theorem dX9_isReady_54 : decode cX9_isReady 54 = .ok (.iload_n 1, 1) := by decide +kernel
theorem dX9_isReady_55 : decode cX9_isReady 55 = .ok (.invokevirtual 158, 3) := by decide +kernel
theorem dX9_isReady_58 : decode cX9_isReady 58 = .ok (.istore 5, 2) := by decide +kernel
theorem dX9_isReady_60 : decode cX9_isReady 60 = .ok (.iload_n 3, 1) := by decide +kernel
theorem dX9_isReady_61 : decode cX9_isReady 61 = .ok (.ifCond .eq 31, 3) := by decide +kernel
theorem dX9_isReady_64 : decode cX9_isReady 64 = .ok (.iload 5, 2) := by decide +kernel
theorem dX9_isReady_66 : decode cX9_isReady 66 = .ok (.ifCond .eq 22, 3) := by decide +kernel
theorem dX9_isReady_69 : decode cX9_isReady 69 = .ok (.aload_n 0, 1) := by decide +kernel
theorem dX9_isReady_70 : decode cX9_isReady 70 = .ok (.iload 4, 2) := by decide +kernel
theorem dX9_isReady_72 : decode cX9_isReady 72 = .ok (.invokevirtual 176, 3) := by decide +kernel
theorem dX9_isReady_75 : decode cX9_isReady 75 = .ok (.ifCond .eq 13, 3) := by decide +kernel
theorem dX9_isReady_78 : decode cX9_isReady 78 = .ok (.iload_n 2, 1) := by decide +kernel
theorem dX9_isReady_79 : decode cX9_isReady 79 = .ok (.iload 4, 2) := by decide +kernel
theorem dX9_isReady_81 : decode cX9_isReady 81 = .ok (.ishr, 1) := by decide +kernel
theorem dX9_isReady_82 : decode cX9_isReady 82 = .ok (.iconst 1, 1) := by decide +kernel
theorem dX9_isReady_83 : decode cX9_isReady 83 = .ok (.iand, 1) := by decide +kernel
theorem dX9_isReady_84 : decode cX9_isReady 84 = .ok (.iconst 1, 1) := by decide +kernel
theorem dX9_isReady_85 : decode cX9_isReady 85 = .ok (.if_icmp .ne 7, 3) := by decide +kernel
theorem dX9_isReady_88 : decode cX9_isReady 88 = .ok (.iconst 1, 1) := by decide +kernel
theorem dX9_isReady_89 : decode cX9_isReady 89 = .ok (.goto 4, 3) := by decide +kernel
theorem dX9_isReady_92 : decode cX9_isReady 92 = .ok (.iconst 0, 1) := by decide +kernel
theorem dX9_isReady_93 : decode cX9_isReady 93 = .ok (.istore_n 3, 1) := by decide +kernel
theorem dX9_isReady_94 : decode cX9_isReady 94 = .ok (.iinc 4 1, 3) := by decide +kernel
theorem dX9_isReady_97 : decode cX9_isReady 97 = .ok (.goto (-92), 3) := by decide +kernel
theorem dX9_isReady_100 : decode cX9_isReady 100 = .ok (.iload_n 3, 1) := by decide +kernel
theorem dX9_isReady_101 : decode cX9_isReady 101 = .ok (.ireturn, 1) := by decide +kernel
theorem dX9_hasAll_0 : decode cX9_hasAll 0 = .ok (.iconst 1, 1) := by decide +kernel
theorem dX9_hasAll_1 : decode cX9_hasAll 1 = .ok (.istore_n 2, 1) := by decide +kernel
theorem dX9_hasAll_2 : decode cX9_hasAll 2 = .ok (.iconst 0, 1) := by decide +kernel
theorem dX9_hasAll_3 : decode cX9_hasAll 3 = .ok (.istore_n 3, 1) := by decide +kernel
theorem dX9_hasAll_4 : decode cX9_hasAll 4 = .ok (.iload_n 3, 1) := by decide +kernel
theorem dX9_hasAll_5 : decode cX9_hasAll 5 = .ok (.aload_n 0, 1) := by decide +kernel
theorem dX9_hasAll_6 : decode cX9_hasAll 6 = .ok (.getfield 101, 3) := by decide +kernel
theorem dX9_hasAll_9 : decode cX9_hasAll 9 = .ok (.if_icmp .ge 44, 3) := by decide +kernel
theorem dX9_hasAll_12 : decode cX9_hasAll 12 = .ok (.iload_n 2, 1) := by decide +kernel
theorem dX9_hasAll_13 : decode cX9_hasAll 13 = .ok (.ifCond .eq 32, 3) := by decide +kernel
theorem dX9_hasAll_16 : decode cX9_hasAll 16 = .ok (.aload_n 0, 1) := by decide +kernel
theorem dX9_hasAll_17 : decode cX9_hasAll 17 = .ok (.iload_n 3, 1) := by decide +kernel
theorem dX9_hasAll_18 : decode cX9_hasAll 18 = .ok (.invokevirtual 176, 3) := by decide +kernel
theorem dX9_hasAll_21 : decode cX9_hasAll 21 = .ok (.ifCond .eq 20, 3) := by decide +kernel
theorem dX9_hasAll_24 : decode cX9_hasAll 24 = .ok (.aload_n 0, 1) := by decide +kernel
theorem dX9_hasAll_25 : decode cX9_hasAll 25 = .ok (.iload_n 3, 1) := by decide +kernel
theorem dX9_hasAll_26 : decode cX9_hasAll 26 = .ok (.invokevirtual 179, 3) := by decide +kernel
theorem dX9_hasAll_29 : decode cX9_hasAll 29 = .ok (.ifCond .eq 12, 3) := by decide +kernel
theorem dX9_hasAll_32 : decode cX9_hasAll 32 = .ok (.iload_n 1, 1) := by decide +kernel
theorem dX9_hasAll_33 : decode cX9_hasAll 33 = .ok (.iload_n 3, 1) := by decide +kernel
theorem dX9_hasAll_34 : decode cX9_hasAll 34 = .ok (.ishr, 1) := by decide +kernel
theorem dX9_hasAll_35 : decode cX9_hasAll 35 = .ok (.iconst 1, 1) := by decide +kernel
theorem dX9_hasAll_36 : decode cX9_hasAll 36 = .ok (.iand, 1) := by decide +kernel
theorem dX9_hasAll_37 : decode cX9_hasAll 37 = .ok (.iconst 1, 1) := by decide +kernel
theorem dX9_hasAll_38 : decode cX9_hasAll 38 = .ok (.if_icmp .ne 7, 3) := by decide +kernel
theorem dX9_hasAll_41 : decode cX9_hasAll 41 = .ok (.iconst 1, 1) := by decide +kernel
theorem dX9_hasAll_42 : decode cX9_hasAll 42 = .ok (.goto 4, 3) := by decide +kernel
theorem dX9_hasAll_45 : decode cX9_hasAll 45 = .ok (.iconst 0, 1) := by decide +kernel
theorem dX9_hasAll_46 : decode cX9_hasAll 46 = .ok (.istore_n 2, 1) := by decide +kernel
theorem dX9_hasAll_47 : decode cX9_hasAll 47 = .ok (.iinc 3 1, 3) := by decide +kernel
theorem dX9_hasAll_50 : decode cX9_hasAll 50 = .ok (.goto (-46), 3) := by decide +kernel
theorem dX9_hasAll_53 : decode cX9_hasAll 53 = .ok (.iload_n 2, 1) := by decide +kernel
theorem dX9_hasAll_54 : decode cX9_hasAll 54 = .ok (.ireturn, 1) := by decide +kernel
theorem dX9_finds_0 : decode cX9_finds 0 = .ok (.aload_n 0, 1) := by decide +kernel
theorem dX9_finds_1 : decode cX9_finds 1 = .ok (.getfield 182, 3) := by decide +kernel
theorem dX9_finds_4 : decode cX9_finds 4 = .ok (.ifCond .ne 37, 3) := by decide +kernel
theorem dX9_finds_7 : decode cX9_finds 7 = .ok (.aload_n 0, 1) := by decide +kernel
theorem dX9_finds_8 : decode cX9_finds 8 = .ok (.iload_n 2, 1) := by decide +kernel
theorem dX9_finds_9 : decode cX9_finds 9 = .ok (.putfield 185, 3) := by decide +kernel
theorem dX9_finds_12 : decode cX9_finds 12 = .ok (.iconst 0, 1) := by decide +kernel
theorem dX9_finds_13 : decode cX9_finds 13 = .ok (.istore 4, 2) := by decide +kernel
theorem dX9_finds_15 : decode cX9_finds 15 = .ok (.iload 4, 2) := by decide +kernel
theorem dX9_finds_17 : decode cX9_finds 17 = .ok (.iload_n 2, 1) := by decide +kernel
theorem dX9_finds_18 : decode cX9_finds 18 = .ok (.if_icmp .ge 23, 3) := by decide +kernel
theorem dX9_finds_21 : decode cX9_finds 21 = .ok (.aload_n 0, 1) := by decide +kernel
theorem dX9_finds_22 : decode cX9_finds 22 = .ok (.getfield 74, 3) := by decide +kernel
theorem dX9_finds_25 : decode cX9_finds 25 = .ok (.iload 4, 2) := by decide +kernel
theorem dX9_finds_27 : decode cX9_finds 27 = .ok (.aload_n 0, 1) := by decide +kernel
theorem dX9_finds_28 : decode cX9_finds 28 = .ok (.getfield 71, 3) := by decide +kernel
theorem dX9_finds_31 : decode cX9_finds 31 = .ok (.iload 4, 2) := by decide +kernel
theorem dX9_finds_33 : decode cX9_finds 33 = .ok (.iaload, 1) := by decide +kernel
theorem dX9_finds_34 : decode cX9_finds 34 = .ok (.iastore, 1) := by decide +kernel
theorem dX9_finds_35 : decode cX9_finds 35 = .ok (.iinc 4 1, 3) := by decide +kernel
theorem dX9_finds_38 : decode cX9_finds 38 = .ok (.goto (-23), 3) := by decide +kernel
theorem dX9_finds_41 : decode cX9_finds 41 = .ok (.aload_n 0, 1) := by decide +kernel
theorem dX9_finds_42 : decode cX9_finds 42 = .ok (.dup, 1) := by decide +kernel
theorem dX9_finds_43 : decode cX9_finds 43 = .ok (.getfield 182, 3) := by decide +kernel
theorem dX9_finds_46 : decode cX9_finds 46 = .ok (.iconst 1, 1) := by decide +kernel
theorem dX9_finds_47 : decode cX9_finds 47 = .ok (.iadd, 1) := by decide +kernel
theorem dX9_finds_48 : decode cX9_finds 48 = .ok (.putfield 182, 3) := by decide +kernel
theorem dX9_finds_51 : decode cX9_finds 51 = .ok (.aload_n 0, 1) := by decide +kernel
theorem dX9_finds_52 : decode cX9_finds 52 = .ok (.getfield 188, 3) := by decide +kernel
theorem dX9_finds_55 : decode cX9_finds 55 = .ok (.bipush (-10), 2) := by decide +kernel
theorem dX9_finds_57 : decode cX9_finds 57 = .ok (.if_icmp .eq 26, 3) := by decide +kernel
theorem dX9_finds_60 : decode cX9_finds 60 = .ok (.iload_n 1, 1) := by decide +kernel
theorem dX9_finds_61 : decode cX9_finds 61 = .ok (.aload_n 0, 1) := by decide +kernel
theorem dX9_finds_62 : decode cX9_finds 62 = .ok (.getfield 188, 3) := by decide +kernel
theorem dX9_finds_65 : decode cX9_finds 65 = .ok (.ishr, 1) := by decide +kernel
theorem dX9_finds_66 : decode cX9_finds 66 = .ok (.iconst 1, 1) := by decide +kernel
theorem dX9_finds_67 : decode cX9_finds 67 = .ok (.iand, 1) := by decide +kernel
theorem dX9_finds_68 : decode cX9_finds 68 = .ok (.iconst 1, 1) := by decide +kernel
theorem dX9_finds_69 : decode cX9_finds 69 = .ok (.if_icmp .ne 14, 3) := by decide +kernel
theorem dX9_finds_72 : decode cX9_finds 72 = .ok (.aload_n 0, 1) := by decide +kernel
theorem dX9_finds_73 : decode cX9_finds 73 = .ok (.getfield 77, 3) := by decide +kernel
theorem dX9_finds_76 : decode cX9_finds 76 = .ok (.iload_n 3, 1) := by decide +kernel
theorem dX9_finds_77 : decode cX9_finds 77 = .ok (.sipush 1100, 3) := by decide +kernel
theorem dX9_finds_80 : decode cX9_finds 80 = .ok (.iadd, 1) := by decide +kernel
theorem dX9_finds_81 : decode cX9_finds 81 = .ok (.iconst 1, 1) := by decide +kernel
theorem dX9_finds_82 : decode cX9_finds 82 = .ok (.bastore, 1) := by decide +kernel
theorem dX9_finds_83 : decode cX9_finds 83 = .ok (.return_, 1) := by decide +kernel
theorem dX9_search_0 : decode cX9_search 0 = .ok (.aload_n 0, 1) := by decide +kernel
theorem dX9_search_1 : decode cX9_search 1 = .ok (.iload_n 1, 1) := by decide +kernel
theorem dX9_search_2 : decode cX9_search 2 = .ok (.invokevirtual 191, 3) := by decide +kernel
theorem dX9_search_5 : decode cX9_search 5 = .ok (.ifCond .eq 10, 3) := by decide +kernel
theorem dX9_search_8 : decode cX9_search 8 = .ok (.aload_n 0, 1) := by decide +kernel
theorem dX9_search_9 : decode cX9_search 9 = .ok (.iload_n 1, 1) := by decide +kernel
theorem dX9_search_10 : decode cX9_search 10 = .ok (.iload_n 2, 1) := by decide +kernel
theorem dX9_search_11 : decode cX9_search 11 = .ok (.iload_n 3, 1) := by decide +kernel
theorem dX9_search_12 : decode cX9_search 12 = .ok (.invokevirtual 194, 3) := by decide +kernel
theorem dX9_search_15 : decode cX9_search 15 = .ok (.iconst 0, 1) := by decide +kernel
theorem dX9_search_16 : decode cX9_search 16 = .ok (.istore 4, 2) := by decide +kernel
theorem dX9_search_18 : decode cX9_search 18 = .ok (.iload 4, 2) := by decide +kernel
theorem dX9_search_20 : decode cX9_search 20 = .ok (.aload_n 0, 1) := by decide +kernel
theorem dX9_search_21 : decode cX9_search 21 = .ok (.getfield 101, 3) := by decide +kernel
theorem dX9_search_24 : decode cX9_search 24 = .ok (.if_icmp .ge 140, 3) := by decide +kernel
theorem dX9_search_27 : decode cX9_search 27 = .ok (.aload_n 0, 1) := by decide +kernel
theorem dX9_search_28 : decode cX9_search 28 = .ok (.getfield 198, 3) := by decide +kernel
theorem dX9_search_31 : decode cX9_search 31 = .ok (.ifCond .ne 10, 3) := by decide +kernel
theorem dX9_search_34 : decode cX9_search 34 = .ok (.aload_n 0, 1) := by decide +kernel
theorem dX9_search_35 : decode cX9_search 35 = .ok (.getfield 182, 3) := by decide +kernel
theorem dX9_search_38 : decode cX9_search 38 = .ok (.ifCond .ne 126, 3) := by decide +kernel
theorem dX9_search_41 : decode cX9_search 41 = .ok (.iload_n 1, 1) := by decide +kernel
theorem dX9_search_42 : decode cX9_search 42 = .ok (.iload 4, 2) := by decide +kernel
theorem dX9_search_44 : decode cX9_search 44 = .ok (.ishr, 1) := by decide +kernel
theorem dX9_search_45 : decode cX9_search 45 = .ok (.iconst 1, 1) := by decide +kernel
theorem dX9_search_46 : decode cX9_search 46 = .ok (.iand, 1) := by decide +kernel
theorem dX9_search_47 : decode cX9_search 47 = .ok (.ifCond .ne 111, 3) := by decide +kernel
theorem dX9_search_50 : decode cX9_search 50 = .ok (.aload_n 0, 1) := by decide +kernel
theorem dX9_search_51 : decode cX9_search 51 = .ok (.iload 4, 2) := by decide +kernel
theorem dX9_search_53 : decode cX9_search 53 = .ok (.invokevirtual 176, 3) := by decide +kernel
theorem dX9_search_56 : decode cX9_search 56 = .ok (.ifCond .eq 102, 3) := by decide +kernel
theorem dX9_search_59 : decode cX9_search 59 = .ok (.aload_n 0, 1) := by decide +kernel
theorem dX9_search_60 : decode cX9_search 60 = .ok (.iload 4, 2) := by decide +kernel
theorem dX9_search_62 : decode cX9_search 62 = .ok (.iload_n 1, 1) := by decide +kernel
theorem dX9_search_63 : decode cX9_search 63 = .ok (.invokevirtual 201, 3) := by decide +kernel
theorem dX9_search_66 : decode cX9_search 66 = .ok (.ifCond .eq 92, 3) := by decide +kernel
theorem dX9_search_69 : decode cX9_search 69 = .ok (.aload_n 0, 1) := by decide +kernel
theorem dX9_search_70 : decode cX9_search 70 = .ok (.getfield 55, 3) := by decide +kernel
theorem dX9_search_73 : decode cX9_search 73 = .ok (.aload_n 0, 1) := by decide +kernel
theorem dX9_search_74 : decode cX9_search 74 = .ok (.getfield 22, 3) := by decide +kernel
theorem dX9_search_77 : decode cX9_search 77 = .ok (.iload 4, 2) := by decide +kernel
theorem dX9_search_79 : decode cX9_search 79 = .ok (.iaload, 1) := by decide +kernel
theorem dX9_search_80 : decode cX9_search 80 = .ok (.iaload, 1) := by decide +kernel
theorem dX9_search_81 : decode cX9_search 81 = .ok (.istore 5, 2) := by decide +kernel
theorem dX9_search_83 : decode cX9_search 83 = .ok (.aload_n 0, 1) := by decide +kernel
theorem dX9_search_84 : decode cX9_search 84 = .ok (.iload 4, 2) := by decide +kernel
theorem dX9_search_86 : decode cX9_search 86 = .ok (.invokevirtual 204, 3) := by decide +kernel
theorem dX9_search_89 : decode cX9_search 89 = .ok (.istore 6, 2) := by decide +kernel
theorem dX9_search_91 : decode cX9_search 91 = .ok (.aload_n 0, 1) := by decide +kernel
theorem dX9_search_92 : decode cX9_search 92 = .ok (.iload 4, 2) := by decide +kernel
theorem dX9_search_94 : decode cX9_search 94 = .ok (.invokevirtual 179, 3) := by decide +kernel
theorem dX9_search_97 : decode cX9_search 97 = .ok (.ifCond .eq 15, 3) := by decide +kernel
theorem dX9_search_100 : decode cX9_search 100 = .ok (.iload 6, 2) := by decide +kernel
theorem dX9_search_102 : decode cX9_search 102 = .ok (.aload_n 0, 1) := by decide +kernel
theorem dX9_search_103 : decode cX9_search 103 = .ok (.getfield 37, 3) := by decide +kernel
theorem dX9_search_106 : decode cX9_search 106 = .ok (.iload 4, 2) := by decide +kernel
theorem dX9_search_108 : decode cX9_search 108 = .ok (.iaload, 1) := by decide +kernel
theorem dX9_search_109 : decode cX9_search 109 = .ok (.if_icmp .ne 39, 3) := by decide +kernel
theorem dX9_search_112 : decode cX9_search 112 = .ok (.aload_n 0, 1) := by decide +kernel
theorem dX9_search_113 : decode cX9_search 113 = .ok (.getfield 71, 3) := by decide +kernel
theorem dX9_search_116 : decode cX9_search 116 = .ok (.iload_n 2, 1) := by decide +kernel
theorem dX9_search_117 : decode cX9_search 117 = .ok (.iload 4, 2) := by decide +kernel
theorem dX9_search_119 : decode cX9_search 119 = .ok (.iastore, 1) := by decide +kernel
theorem dX9_search_120 : decode cX9_search 120 = .ok (.aload_n 0, 1) := by decide +kernel
theorem dX9_search_121 : decode cX9_search 121 = .ok (.iload_n 1, 1) := by decide +kernel
theorem dX9_search_122 : decode cX9_search 122 = .ok (.iconst 1, 1) := by decide +kernel
theorem dX9_search_123 : decode cX9_search 123 = .ok (.iload 4, 2) := by decide +kernel
theorem dX9_search_125 : decode cX9_search 125 = .ok (.ishl, 1) := by decide +kernel
theorem dX9_search_126 : decode cX9_search 126 = .ok (.ior, 1) := by decide +kernel
theorem dX9_search_127 : decode cX9_search 127 = .ok (.iload_n 2, 1) := by decide +kernel
theorem dX9_search_128 : decode cX9_search 128 = .ok (.iconst 1, 1) := by decide +kernel
theorem dX9_search_129 : decode cX9_search 129 = .ok (.iadd, 1) := by decide +kernel
theorem dX9_search_130 : decode cX9_search 130 = .ok (.iload 4, 2) := by decide +kernel
theorem dX9_search_132 : decode cX9_search 132 = .ok (.aload_n 0, 1) := by decide +kernel
theorem dX9_search_133 : decode cX9_search 133 = .ok (.getfield 188, 3) := by decide +kernel
theorem dX9_search_136 : decode cX9_search 136 = .ok (.if_icmp .ne 8, 3) := by decide +kernel
theorem dX9_search_139 : decode cX9_search 139 = .ok (.iload 6, 2) := by decide +kernel
theorem dX9_search_141 : decode cX9_search 141 = .ok (.goto 4, 3) := by decide +kernel
theorem dX9_search_144 : decode cX9_search 144 = .ok (.iload_n 3, 1) := by decide +kernel
theorem dX9_search_145 : decode cX9_search 145 = .ok (.invokevirtual 207, 3) := by decide +kernel
theorem dX9_search_148 : decode cX9_search 148 = .ok (.aload_n 0, 1) := by decide +kernel
theorem dX9_search_149 : decode cX9_search 149 = .ok (.iload 4, 2) := by decide +kernel
theorem dX9_search_151 : decode cX9_search 151 = .ok (.iload 5, 2) := by decide +kernel
theorem dX9_search_153 : decode cX9_search 153 = .ok (.iload 6, 2) := by decide +kernel
theorem dX9_search_155 : decode cX9_search 155 = .ok (.invokevirtual 210, 3) := by decide +kernel
theorem dX9_search_158 : decode cX9_search 158 = .ok (.iinc 4 1, 3) := by decide +kernel
theorem dX9_search_161 : decode cX9_search 161 = .ok (.goto (-143), 3) := by decide +kernel
theorem dX9_search_164 : decode cX9_search 164 = .ok (.return_, 1) := by decide +kernel
theorem dX9_searches_0 : decode cX9_searches 0 = .ok (.aload_n 0, 1) := by decide +kernel
theorem dX9_searches_1 : decode cX9_searches 1 = .ok (.iload_n 1, 1) := by decide +kernel
theorem dX9_searches_2 : decode cX9_searches 2 = .ok (.putfield 166, 3) := by decide +kernel
theorem dX9_searches_5 : decode cX9_searches 5 = .ok (.aload_n 0, 1) := by decide +kernel
theorem dX9_searches_6 : decode cX9_searches 6 = .ok (.iload_n 2, 1) := by decide +kernel
theorem dX9_searches_7 : decode cX9_searches 7 = .ok (.putfield 169, 3) := by decide +kernel
theorem dX9_searches_10 : decode cX9_searches 10 = .ok (.aload_n 0, 1) := by decide +kernel
theorem dX9_searches_11 : decode cX9_searches 11 = .ok (.iload_n 3, 1) := by decide +kernel
theorem dX9_searches_12 : decode cX9_searches 12 = .ok (.putfield 172, 3) := by decide +kernel
theorem dX9_searches_15 : decode cX9_searches 15 = .ok (.aload_n 0, 1) := by decide +kernel
theorem dX9_searches_16 : decode cX9_searches 16 = .ok (.iload 4, 2) := by decide +kernel
theorem dX9_searches_18 : decode cX9_searches 18 = .ok (.putfield 198, 3) := by decide +kernel
theorem dX9_searches_21 : decode cX9_searches 21 = .ok (.aload_n 0, 1) := by decide +kernel
theorem dX9_searches_22 : decode cX9_searches 22 = .ok (.iload 5, 2) := by decide +kernel
theorem dX9_searches_24 : decode cX9_searches 24 = .ok (.putfield 188, 3) := by decide +kernel
theorem dX9_searches_27 : decode cX9_searches 27 = .ok (.aload_n 0, 1) := by decide +kernel
theorem dX9_searches_28 : decode cX9_searches 28 = .ok (.iconst 0, 1) := by decide +kernel
theorem dX9_searches_29 : decode cX9_searches 29 = .ok (.putfield 182, 3) := by decide +kernel
theorem dX9_searches_32 : decode cX9_searches 32 = .ok (.aload_n 0, 1) := by decide +kernel
theorem dX9_searches_33 : decode cX9_searches 33 = .ok (.iconst 0, 1) := by decide +kernel
theorem dX9_searches_34 : decode cX9_searches 34 = .ok (.putfield 185, 3) := by decide +kernel
theorem dX9_searches_37 : decode cX9_searches 37 = .ok (.iconst 0, 1) := by decide +kernel
theorem dX9_searches_38 : decode cX9_searches 38 = .ok (.istore 6, 2) := by decide +kernel
theorem dX9_searches_40 : decode cX9_searches 40 = .ok (.iload 6, 2) := by decide +kernel
theorem dX9_searches_42 : decode cX9_searches 42 = .ok (.aload_n 0, 1) := by decide +kernel
theorem dX9_searches_43 : decode cX9_searches 43 = .ok (.getfield 77, 3) := by decide +kernel
theorem dX9_searches_46 : decode cX9_searches 46 = .ok (.arraylength, 1) := by decide +kernel
theorem dX9_searches_47 : decode cX9_searches 47 = .ok (.if_icmp .ge 17, 3) := by decide +kernel
theorem dX9_searches_50 : decode cX9_searches 50 = .ok (.aload_n 0, 1) := by decide +kernel
theorem dX9_searches_51 : decode cX9_searches 51 = .ok (.getfield 77, 3) := by decide +kernel
theorem dX9_searches_54 : decode cX9_searches 54 = .ok (.iload 6, 2) := by decide +kernel
theorem dX9_searches_56 : decode cX9_searches 56 = .ok (.iconst 0, 1) := by decide +kernel
theorem dX9_searches_57 : decode cX9_searches 57 = .ok (.bastore, 1) := by decide +kernel
theorem dX9_searches_58 : decode cX9_searches 58 = .ok (.iinc 6 1, 3) := by decide +kernel
theorem dX9_searches_61 : decode cX9_searches 61 = .ok (.goto (-21), 3) := by decide +kernel
theorem dX9_searches_64 : decode cX9_searches 64 = .ok (.aload_n 0, 1) := by decide +kernel
theorem dX9_searches_65 : decode cX9_searches 65 = .ok (.invokevirtual 213, 3) := by decide +kernel
theorem dX9_searches_68 : decode cX9_searches 68 = .ok (.aload_n 0, 1) := by decide +kernel
theorem dX9_searches_69 : decode cX9_searches 69 = .ok (.iconst 0, 1) := by decide +kernel
theorem dX9_searches_70 : decode cX9_searches 70 = .ok (.iconst 0, 1) := by decide +kernel
theorem dX9_searches_71 : decode cX9_searches 71 = .ok (.iconst 0, 1) := by decide +kernel
theorem dX9_searches_72 : decode cX9_searches 72 = .ok (.invokevirtual 207, 3) := by decide +kernel
theorem dX9_searches_75 : decode cX9_searches 75 = .ok (.aload_n 0, 1) := by decide +kernel
theorem dX9_searches_76 : decode cX9_searches 76 = .ok (.getfield 182, 3) := by decide +kernel
theorem dX9_searches_79 : decode cX9_searches 79 = .ok (.ireturn, 1) := by decide +kernel
theorem dX9_isLinear_0 : decode cX9_isLinear 0 = .ok (.aload_n 0, 1) := by decide +kernel
theorem dX9_isLinear_1 : decode cX9_isLinear 1 = .ok (.iload_n 1, 1) := by decide +kernel
theorem dX9_isLinear_2 : decode cX9_isLinear 2 = .ok (.bipush (-10), 2) := by decide +kernel
theorem dX9_isLinear_4 : decode cX9_isLinear 4 = .ok (.iconst 0, 1) := by decide +kernel
theorem dX9_isLinear_5 : decode cX9_isLinear 5 = .ok (.iconst 0, 1) := by decide +kernel
theorem dX9_isLinear_6 : decode cX9_isLinear 6 = .ok (.bipush (-10), 2) := by decide +kernel
theorem dX9_isLinear_8 : decode cX9_isLinear 8 = .ok (.invokevirtual 216, 3) := by decide +kernel
theorem dX9_isLinear_11 : decode cX9_isLinear 11 = .ok (.ifCond .le 7, 3) := by decide +kernel
theorem dX9_isLinear_14 : decode cX9_isLinear 14 = .ok (.iconst 1, 1) := by decide +kernel
theorem dX9_isLinear_15 : decode cX9_isLinear 15 = .ok (.goto 4, 3) := by decide +kernel
theorem dX9_isLinear_18 : decode cX9_isLinear 18 = .ok (.iconst 0, 1) := by decide +kernel
theorem dX9_isLinear_19 : decode cX9_isLinear 19 = .ok (.ireturn, 1) := by decide +kernel
theorem dX9_isLinearizable_0 : decode cX9_isLinearizable 0 = .ok (.aload_n 0, 1) := by decide +kernel
theorem dX9_isLinearizable_1 : decode cX9_isLinearizable 1 = .ok (.aload_n 0, 1) := by decide +kernel
theorem dX9_isLinearizable_2 : decode cX9_isLinearizable 2 = .ok (.getfield 104, 3) := by decide +kernel
theorem dX9_isLinearizable_5 : decode cX9_isLinearizable 5 = .ok (.invokevirtual 220, 3) := by decide +kernel
theorem dX9_isLinearizable_8 : decode cX9_isLinearizable 8 = .ok (.ifCond .eq 7, 3) := by decide +kernel
theorem dX9_isLinearizable_11 : decode cX9_isLinearizable 11 = .ok (.iconst 1, 1) := by decide +kernel
theorem dX9_isLinearizable_12 : decode cX9_isLinearizable 12 = .ok (.goto 4, 3) := by decide +kernel
theorem dX9_isLinearizable_15 : decode cX9_isLinearizable 15 = .ok (.iconst 0, 1) := by decide +kernel
theorem dX9_isLinearizable_16 : decode cX9_isLinearizable 16 = .ok (.ireturn, 1) := by decide +kernel
theorem dX9_isObjectLinearizable_0 : decode cX9_isObjectLinearizable 0 = .ok (.aload_n 0, 1) := by decide +kernel
theorem dX9_isObjectLinearizable_1 : decode cX9_isObjectLinearizable 1 = .ok (.iload_n 1, 1) := by decide +kernel
theorem dX9_isObjectLinearizable_2 : decode cX9_isObjectLinearizable 2 = .ok (.invokevirtual 114, 3) := by decide +kernel
theorem dX9_isObjectLinearizable_5 : decode cX9_isObjectLinearizable 5 = .ok (.ifCond .ne 6, 3) := by decide +kernel
theorem dX9_isObjectLinearizable_8 : decode cX9_isObjectLinearizable 8 = .ok (.bipush (-2), 2) := by decide +kernel
theorem dX9_isObjectLinearizable_10 : decode cX9_isObjectLinearizable 10 = .ok (.ireturn, 1) := by decide +kernel
theorem dX9_isObjectLinearizable_11 : decode cX9_isObjectLinearizable 11 = .ok (.aload_n 0, 1) := by decide +kernel
theorem dX9_isObjectLinearizable_12 : decode cX9_isObjectLinearizable 12 = .ok (.aload_n 0, 1) := by decide +kernel
theorem dX9_isObjectLinearizable_13 : decode cX9_isObjectLinearizable 13 = .ok (.getfield 104, 3) := by decide +kernel
theorem dX9_isObjectLinearizable_16 : decode cX9_isObjectLinearizable 16 = .ok (.iload_n 1, 1) := by decide +kernel
theorem dX9_isObjectLinearizable_17 : decode cX9_isObjectLinearizable 17 = .ok (.iconst 0, 1) := by decide +kernel
theorem dX9_isObjectLinearizable_18 : decode cX9_isObjectLinearizable 18 = .ok (.iconst 0, 1) := by decide +kernel
theorem dX9_isObjectLinearizable_19 : decode cX9_isObjectLinearizable 19 = .ok (.bipush (-10), 2) := by decide +kernel
theorem dX9_isObjectLinearizable_21 : decode cX9_isObjectLinearizable 21 = .ok (.invokevirtual 216, 3) := by decide +kernel
theorem dX9_isObjectLinearizable_24 : decode cX9_isObjectLinearizable 24 = .ok (.ifCond .le 7, 3) := by decide +kernel
theorem dX9_isObjectLinearizable_27 : decode cX9_isObjectLinearizable 27 = .ok (.iconst 1, 1) := by decide +kernel
theorem dX9_isObjectLinearizable_28 : decode cX9_isObjectLinearizable 28 = .ok (.goto 4, 3) := by decide +kernel
theorem dX9_isObjectLinearizable_31 : decode cX9_isObjectLinearizable 31 = .ok (.iconst 0, 1) := by decide +kernel
theorem dX9_isObjectLinearizable_32 : decode cX9_isObjectLinearizable 32 = .ok (.ireturn, 1) := by decide +kernel
theorem dX9_isSequentiallyConsistent_0 : decode cX9_isSequentiallyConsistent 0 = .ok (.aload_n 0, 1) := by decide +kernel
theorem dX9_isSequentiallyConsistent_1 : decode cX9_isSequentiallyConsistent 1 = .ok (.aload_n 0, 1) := by decide +kernel
theorem dX9_isSequentiallyConsistent_2 : decode cX9_isSequentiallyConsistent 2 = .ok (.getfield 104, 3) := by decide +kernel
theorem dX9_isSequentiallyConsistent_5 : decode cX9_isSequentiallyConsistent 5 = .ok (.bipush (-10), 2) := by decide +kernel
theorem dX9_isSequentiallyConsistent_7 : decode cX9_isSequentiallyConsistent 7 = .ok (.iconst 1, 1) := by decide +kernel
theorem dX9_isSequentiallyConsistent_8 : decode cX9_isSequentiallyConsistent 8 = .ok (.iconst 0, 1) := by decide +kernel
theorem dX9_isSequentiallyConsistent_9 : decode cX9_isSequentiallyConsistent 9 = .ok (.bipush (-10), 2) := by decide +kernel
theorem dX9_isSequentiallyConsistent_11 : decode cX9_isSequentiallyConsistent 11 = .ok (.invokevirtual 216, 3) := by decide +kernel
theorem dX9_isSequentiallyConsistent_14 : decode cX9_isSequentiallyConsistent 14 = .ok (.ifCond .le 7, 3) := by decide +kernel
theorem dX9_isSequentiallyConsistent_17 : decode cX9_isSequentiallyConsistent 17 = .ok (.iconst 1, 1) := by decide +kernel
theorem dX9_isSequentiallyConsistent_18 : decode cX9_isSequentiallyConsistent 18 = .ok (.goto 4, 3) := by decide +kernel
theorem dX9_isSequentiallyConsistent_21 : decode cX9_isSequentiallyConsistent 21 = .ok (.iconst 0, 1) := by decide +kernel
theorem dX9_isSequentiallyConsistent_22 : decode cX9_isSequentiallyConsistent 22 = .ok (.ireturn, 1) := by decide +kernel
theorem dX9_countLinearizations_0 : decode cX9_countLinearizations 0 = .ok (.aload_n 0, 1) := by decide +kernel
theorem dX9_countLinearizations_1 : decode cX9_countLinearizations 1 = .ok (.aload_n 0, 1) := by decide +kernel
theorem dX9_countLinearizations_2 : decode cX9_countLinearizations 2 = .ok (.getfield 104, 3) := by decide +kernel
theorem dX9_countLinearizations_5 : decode cX9_countLinearizations 5 = .ok (.bipush (-10), 2) := by decide +kernel
theorem dX9_countLinearizations_7 : decode cX9_countLinearizations 7 = .ok (.iconst 0, 1) := by decide +kernel
theorem dX9_countLinearizations_8 : decode cX9_countLinearizations 8 = .ok (.iconst 1, 1) := by decide +kernel
theorem dX9_countLinearizations_9 : decode cX9_countLinearizations 9 = .ok (.bipush (-10), 2) := by decide +kernel
theorem dX9_countLinearizations_11 : decode cX9_countLinearizations 11 = .ok (.invokevirtual 216, 3) := by decide +kernel
theorem dX9_countLinearizations_14 : decode cX9_countLinearizations 14 = .ok (.ireturn, 1) := by decide +kernel
theorem dX9_firstLinearizationLength_0 : decode cX9_firstLinearizationLength 0 = .ok (.aload_n 0, 1) := by decide +kernel
theorem dX9_firstLinearizationLength_1 : decode cX9_firstLinearizationLength 1 = .ok (.aload_n 0, 1) := by decide +kernel
theorem dX9_firstLinearizationLength_2 : decode cX9_firstLinearizationLength 2 = .ok (.getfield 104, 3) := by decide +kernel
theorem dX9_firstLinearizationLength_5 : decode cX9_firstLinearizationLength 5 = .ok (.invokevirtual 220, 3) := by decide +kernel
theorem dX9_firstLinearizationLength_8 : decode cX9_firstLinearizationLength 8 = .ok (.ifCond .eq 10, 3) := by decide +kernel
theorem dX9_firstLinearizationLength_11 : decode cX9_firstLinearizationLength 11 = .ok (.aload_n 0, 1) := by decide +kernel
theorem dX9_firstLinearizationLength_12 : decode cX9_firstLinearizationLength 12 = .ok (.getfield 185, 3) := by decide +kernel
theorem dX9_firstLinearizationLength_15 : decode cX9_firstLinearizationLength 15 = .ok (.goto 5, 3) := by decide +kernel
theorem dX9_firstLinearizationLength_18 : decode cX9_firstLinearizationLength 18 = .ok (.bipush (-10), 2) := by decide +kernel
theorem dX9_firstLinearizationLength_20 : decode cX9_firstLinearizationLength 20 = .ok (.ireturn, 1) := by decide +kernel
theorem dX9_firstLinearizationAt_0 : decode cX9_firstLinearizationAt 0 = .ok (.aload_n 0, 1) := by decide +kernel
theorem dX9_firstLinearizationAt_1 : decode cX9_firstLinearizationAt 1 = .ok (.aload_n 0, 1) := by decide +kernel
theorem dX9_firstLinearizationAt_2 : decode cX9_firstLinearizationAt 2 = .ok (.getfield 104, 3) := by decide +kernel
theorem dX9_firstLinearizationAt_5 : decode cX9_firstLinearizationAt 5 = .ok (.invokevirtual 220, 3) := by decide +kernel
theorem dX9_firstLinearizationAt_8 : decode cX9_firstLinearizationAt 8 = .ok (.ifCond .eq 26, 3) := by decide +kernel
theorem dX9_firstLinearizationAt_11 : decode cX9_firstLinearizationAt 11 = .ok (.iload_n 1, 1) := by decide +kernel
theorem dX9_firstLinearizationAt_12 : decode cX9_firstLinearizationAt 12 = .ok (.iconst 0, 1) := by decide +kernel
theorem dX9_firstLinearizationAt_13 : decode cX9_firstLinearizationAt 13 = .ok (.aload_n 0, 1) := by decide +kernel
theorem dX9_firstLinearizationAt_14 : decode cX9_firstLinearizationAt 14 = .ok (.getfield 185, 3) := by decide +kernel
theorem dX9_firstLinearizationAt_17 : decode cX9_firstLinearizationAt 17 = .ok (.iconst 1, 1) := by decide +kernel
theorem dX9_firstLinearizationAt_18 : decode cX9_firstLinearizationAt 18 = .ok (.isub, 1) := by decide +kernel
theorem dX9_firstLinearizationAt_19 : decode cX9_firstLinearizationAt 19 = .ok (.invokestatic 93, 3) := by decide +kernel
theorem dX9_firstLinearizationAt_22 : decode cX9_firstLinearizationAt 22 = .ok (.ifCond .eq 12, 3) := by decide +kernel
theorem dX9_firstLinearizationAt_25 : decode cX9_firstLinearizationAt 25 = .ok (.aload_n 0, 1) := by decide +kernel
theorem dX9_firstLinearizationAt_26 : decode cX9_firstLinearizationAt 26 = .ok (.getfield 74, 3) := by decide +kernel
theorem dX9_firstLinearizationAt_29 : decode cX9_firstLinearizationAt 29 = .ok (.iload_n 1, 1) := by decide +kernel
theorem dX9_firstLinearizationAt_30 : decode cX9_firstLinearizationAt 30 = .ok (.iaload, 1) := by decide +kernel
theorem dX9_firstLinearizationAt_31 : decode cX9_firstLinearizationAt 31 = .ok (.goto 5, 3) := by decide +kernel
theorem dX9_firstLinearizationAt_34 : decode cX9_firstLinearizationAt 34 = .ok (.bipush (-10), 2) := by decide +kernel
theorem dX9_firstLinearizationAt_36 : decode cX9_firstLinearizationAt 36 = .ok (.ireturn, 1) := by decide +kernel
theorem dX9_firstViolation_0 : decode cX9_firstViolation 0 = .ok (.iconst 1, 1) := by decide +kernel
theorem dX9_firstViolation_1 : decode cX9_firstViolation 1 = .ok (.istore_n 1, 1) := by decide +kernel
theorem dX9_firstViolation_2 : decode cX9_firstViolation 2 = .ok (.iload_n 1, 1) := by decide +kernel
theorem dX9_firstViolation_3 : decode cX9_firstViolation 3 = .ok (.aload_n 0, 1) := by decide +kernel
theorem dX9_firstViolation_4 : decode cX9_firstViolation 4 = .ok (.getfield 104, 3) := by decide +kernel
theorem dX9_firstViolation_7 : decode cX9_firstViolation 7 = .ok (.if_icmp .gt 19, 3) := by decide +kernel
theorem dX9_firstViolation_10 : decode cX9_firstViolation 10 = .ok (.aload_n 0, 1) := by decide +kernel
theorem dX9_firstViolation_11 : decode cX9_firstViolation 11 = .ok (.iload_n 1, 1) := by decide +kernel
theorem dX9_firstViolation_12 : decode cX9_firstViolation 12 = .ok (.invokevirtual 220, 3) := by decide +kernel
theorem dX9_firstViolation_15 : decode cX9_firstViolation 15 = .ok (.ifCond .ne 5, 3) := by decide +kernel
theorem dX9_firstViolation_18 : decode cX9_firstViolation 18 = .ok (.iload_n 1, 1) := by decide +kernel
theorem dX9_firstViolation_19 : decode cX9_firstViolation 19 = .ok (.ireturn, 1) := by decide +kernel
theorem dX9_firstViolation_20 : decode cX9_firstViolation 20 = .ok (.iinc 1 1, 3) := by decide +kernel
theorem dX9_firstViolation_23 : decode cX9_firstViolation 23 = .ok (.goto (-21), 3) := by decide +kernel
theorem dX9_firstViolation_26 : decode cX9_firstViolation 26 = .ok (.bipush (-10), 2) := by decide +kernel
theorem dX9_firstViolation_28 : decode cX9_firstViolation 28 = .ok (.ireturn, 1) := by decide +kernel
theorem dX9_canRespond_0 : decode cX9_canRespond 0 = .ok (.aload_n 0, 1) := by decide +kernel
theorem dX9_canRespond_1 : decode cX9_canRespond 1 = .ok (.iload_n 1, 1) := by decide +kernel
theorem dX9_canRespond_2 : decode cX9_canRespond 2 = .ok (.iload_n 2, 1) := by decide +kernel
theorem dX9_canRespond_3 : decode cX9_canRespond 3 = .ok (.invokevirtual 152, 3) := by decide +kernel
theorem dX9_canRespond_6 : decode cX9_canRespond 6 = .ok (.istore_n 3, 1) := by decide +kernel
theorem dX9_canRespond_7 : decode cX9_canRespond 7 = .ok (.iload_n 3, 1) := by decide +kernel
theorem dX9_canRespond_8 : decode cX9_canRespond 8 = .ok (.ifCond .ge 5, 3) := by decide +kernel
theorem dX9_canRespond_11 : decode cX9_canRespond 11 = .ok (.iload_n 3, 1) := by decide +kernel
theorem dX9_canRespond_12 : decode cX9_canRespond 12 = .ok (.ireturn, 1) := by decide +kernel
theorem dX9_canRespond_13 : decode cX9_canRespond 13 = .ok (.aload_n 0, 1) := by decide +kernel
theorem dX9_canRespond_14 : decode cX9_canRespond 14 = .ok (.aload_n 0, 1) := by decide +kernel
theorem dX9_canRespond_15 : decode cX9_canRespond 15 = .ok (.getfield 104, 3) := by decide +kernel
theorem dX9_canRespond_18 : decode cX9_canRespond 18 = .ok (.bipush (-10), 2) := by decide +kernel
theorem dX9_canRespond_20 : decode cX9_canRespond 20 = .ok (.iconst 0, 1) := by decide +kernel
theorem dX9_canRespond_21 : decode cX9_canRespond 21 = .ok (.iconst 1, 1) := by decide +kernel
theorem dX9_canRespond_22 : decode cX9_canRespond 22 = .ok (.iload_n 3, 1) := by decide +kernel
theorem dX9_canRespond_23 : decode cX9_canRespond 23 = .ok (.invokevirtual 216, 3) := by decide +kernel
theorem dX9_canRespond_26 : decode cX9_canRespond 26 = .ok (.pop, 1) := by decide +kernel
theorem dX9_canRespond_27 : decode cX9_canRespond 27 = .ok (.aload_n 0, 1) := by decide +kernel
theorem dX9_canRespond_28 : decode cX9_canRespond 28 = .ok (.getfield 77, 3) := by decide +kernel
theorem dX9_canRespond_31 : decode cX9_canRespond 31 = .ok (.iload_n 2, 1) := by decide +kernel
theorem dX9_canRespond_32 : decode cX9_canRespond 32 = .ok (.sipush 1100, 3) := by decide +kernel
theorem dX9_canRespond_35 : decode cX9_canRespond 35 = .ok (.iadd, 1) := by decide +kernel
theorem dX9_canRespond_36 : decode cX9_canRespond 36 = .ok (.baload, 1) := by decide +kernel
theorem dX9_canRespond_37 : decode cX9_canRespond 37 = .ok (.ifCond .eq 7, 3) := by decide +kernel
theorem dX9_canRespond_40 : decode cX9_canRespond 40 = .ok (.iconst 1, 1) := by decide +kernel
theorem dX9_canRespond_41 : decode cX9_canRespond 41 = .ok (.goto 4, 3) := by decide +kernel
theorem dX9_canRespond_44 : decode cX9_canRespond 44 = .ok (.iconst 0, 1) := by decide +kernel
theorem dX9_canRespond_45 : decode cX9_canRespond 45 = .ok (.ireturn, 1) := by decide +kernel
theorem dX9_countResponses_0 : decode cX9_countResponses 0 = .ok (.aload_n 0, 1) := by decide +kernel
theorem dX9_countResponses_1 : decode cX9_countResponses 1 = .ok (.iload_n 1, 1) := by decide +kernel
theorem dX9_countResponses_2 : decode cX9_countResponses 2 = .ok (.invokevirtual 143, 3) := by decide +kernel
theorem dX9_countResponses_5 : decode cX9_countResponses 5 = .ok (.istore_n 2, 1) := by decide +kernel
theorem dX9_countResponses_6 : decode cX9_countResponses 6 = .ok (.iload_n 2, 1) := by decide +kernel
theorem dX9_countResponses_7 : decode cX9_countResponses 7 = .ok (.ifCond .ge 5, 3) := by decide +kernel
theorem dX9_countResponses_10 : decode cX9_countResponses 10 = .ok (.iload_n 2, 1) := by decide +kernel
theorem dX9_countResponses_11 : decode cX9_countResponses 11 = .ok (.ireturn, 1) := by decide +kernel
theorem dX9_countResponses_12 : decode cX9_countResponses 12 = .ok (.aload_n 0, 1) := by decide +kernel
theorem dX9_countResponses_13 : decode cX9_countResponses 13 = .ok (.aload_n 0, 1) := by decide +kernel
theorem dX9_countResponses_14 : decode cX9_countResponses 14 = .ok (.getfield 104, 3) := by decide +kernel
theorem dX9_countResponses_17 : decode cX9_countResponses 17 = .ok (.bipush (-10), 2) := by decide +kernel
theorem dX9_countResponses_19 : decode cX9_countResponses 19 = .ok (.iconst 0, 1) := by decide +kernel
theorem dX9_countResponses_20 : decode cX9_countResponses 20 = .ok (.iconst 1, 1) := by decide +kernel
theorem dX9_countResponses_21 : decode cX9_countResponses 21 = .ok (.iload_n 2, 1) := by decide +kernel
theorem dX9_countResponses_22 : decode cX9_countResponses 22 = .ok (.invokevirtual 216, 3) := by decide +kernel
theorem dX9_countResponses_25 : decode cX9_countResponses 25 = .ok (.pop, 1) := by decide +kernel
theorem dX9_countResponses_26 : decode cX9_countResponses 26 = .ok (.iconst 0, 1) := by decide +kernel
theorem dX9_countResponses_27 : decode cX9_countResponses 27 = .ok (.istore_n 3, 1) := by decide +kernel
theorem dX9_countResponses_28 : decode cX9_countResponses 28 = .ok (.aload_n 0, 1) := by decide +kernel
theorem dX9_countResponses_29 : decode cX9_countResponses 29 = .ok (.getfield 16, 3) := by decide +kernel
theorem dX9_countResponses_32 : decode cX9_countResponses 32 = .ok (.iload_n 2, 1) := by decide +kernel
theorem dX9_countResponses_33 : decode cX9_countResponses 33 = .ok (.iaload, 1) := by decide +kernel
theorem dX9_countResponses_34 : decode cX9_countResponses 34 = .ok (.invokestatic 146, 3) := by decide +kernel
theorem dX9_countResponses_37 : decode cX9_countResponses 37 = .ok (.istore 4, 2) := by decide +kernel
theorem dX9_countResponses_39 : decode cX9_countResponses 39 = .ok (.iload 4, 2) := by decide +kernel
theorem dX9_countResponses_41 : decode cX9_countResponses 41 = .ok (.aload_n 0, 1) := by decide +kernel
theorem dX9_countResponses_42 : decode cX9_countResponses 42 = .ok (.getfield 16, 3) := by decide +kernel
theorem dX9_countResponses_45 : decode cX9_countResponses 45 = .ok (.iload_n 2, 1) := by decide +kernel
theorem dX9_countResponses_46 : decode cX9_countResponses 46 = .ok (.iaload, 1) := by decide +kernel
theorem dX9_countResponses_47 : decode cX9_countResponses 47 = .ok (.invokestatic 149, 3) := by decide +kernel
theorem dX9_countResponses_50 : decode cX9_countResponses 50 = .ok (.if_icmp .gt 31, 3) := by decide +kernel
theorem dX9_countResponses_53 : decode cX9_countResponses 53 = .ok (.iload_n 3, 1) := by decide +kernel
theorem dX9_countResponses_54 : decode cX9_countResponses 54 = .ok (.aload_n 0, 1) := by decide +kernel
theorem dX9_countResponses_55 : decode cX9_countResponses 55 = .ok (.getfield 77, 3) := by decide +kernel
theorem dX9_countResponses_58 : decode cX9_countResponses 58 = .ok (.iload 4, 2) := by decide +kernel
theorem dX9_countResponses_60 : decode cX9_countResponses 60 = .ok (.sipush 1100, 3) := by decide +kernel
theorem dX9_countResponses_63 : decode cX9_countResponses 63 = .ok (.iadd, 1) := by decide +kernel
theorem dX9_countResponses_64 : decode cX9_countResponses 64 = .ok (.baload, 1) := by decide +kernel
theorem dX9_countResponses_65 : decode cX9_countResponses 65 = .ok (.ifCond .eq 7, 3) := by decide +kernel
theorem dX9_countResponses_68 : decode cX9_countResponses 68 = .ok (.iconst 1, 1) := by decide +kernel
theorem dX9_countResponses_69 : decode cX9_countResponses 69 = .ok (.goto 4, 3) := by decide +kernel
theorem dX9_countResponses_72 : decode cX9_countResponses 72 = .ok (.iconst 0, 1) := by decide +kernel
theorem dX9_countResponses_73 : decode cX9_countResponses 73 = .ok (.iadd, 1) := by decide +kernel
theorem dX9_countResponses_74 : decode cX9_countResponses 74 = .ok (.istore_n 3, 1) := by decide +kernel
theorem dX9_countResponses_75 : decode cX9_countResponses 75 = .ok (.iinc 4 1, 3) := by decide +kernel
theorem dX9_countResponses_78 : decode cX9_countResponses 78 = .ok (.goto (-39), 3) := by decide +kernel
theorem dX9_countResponses_81 : decode cX9_countResponses 81 = .ok (.iload_n 3, 1) := by decide +kernel
theorem dX9_countResponses_82 : decode cX9_countResponses 82 = .ok (.ireturn, 1) := by decide +kernel
theorem dX9_positionOf_0 : decode cX9_positionOf 0 = .ok (.iconst 0, 1) := by decide +kernel
theorem dX9_positionOf_1 : decode cX9_positionOf 1 = .ok (.istore_n 2, 1) := by decide +kernel
theorem dX9_positionOf_2 : decode cX9_positionOf 2 = .ok (.iload_n 2, 1) := by decide +kernel
theorem dX9_positionOf_3 : decode cX9_positionOf 3 = .ok (.aload_n 0, 1) := by decide +kernel
theorem dX9_positionOf_4 : decode cX9_positionOf 4 = .ok (.getfield 107, 3) := by decide +kernel
theorem dX9_positionOf_7 : decode cX9_positionOf 7 = .ok (.if_icmp .ge 21, 3) := by decide +kernel
theorem dX9_positionOf_10 : decode cX9_positionOf 10 = .ok (.aload_n 0, 1) := by decide +kernel
theorem dX9_positionOf_11 : decode cX9_positionOf 11 = .ok (.getfield 49, 3) := by decide +kernel
theorem dX9_positionOf_14 : decode cX9_positionOf 14 = .ok (.iload_n 2, 1) := by decide +kernel
theorem dX9_positionOf_15 : decode cX9_positionOf 15 = .ok (.iaload, 1) := by decide +kernel
theorem dX9_positionOf_16 : decode cX9_positionOf 16 = .ok (.iload_n 1, 1) := by decide +kernel
theorem dX9_positionOf_17 : decode cX9_positionOf 17 = .ok (.if_icmp .ne 5, 3) := by decide +kernel
theorem dX9_positionOf_20 : decode cX9_positionOf 20 = .ok (.iload_n 2, 1) := by decide +kernel
theorem dX9_positionOf_21 : decode cX9_positionOf 21 = .ok (.ireturn, 1) := by decide +kernel
theorem dX9_positionOf_22 : decode cX9_positionOf 22 = .ok (.iinc 2 1, 3) := by decide +kernel
theorem dX9_positionOf_25 : decode cX9_positionOf 25 = .ok (.goto (-23), 3) := by decide +kernel
theorem dX9_positionOf_28 : decode cX9_positionOf 28 = .ok (.bipush (-10), 2) := by decide +kernel
theorem dX9_positionOf_30 : decode cX9_positionOf 30 = .ok (.ireturn, 1) := by decide +kernel
theorem dX9_appendToOrder_0 : decode cX9_appendToOrder 0 = .ok (.aload_n 0, 1) := by decide +kernel
theorem dX9_appendToOrder_1 : decode cX9_appendToOrder 1 = .ok (.iload_n 1, 1) := by decide +kernel
theorem dX9_appendToOrder_2 : decode cX9_appendToOrder 2 = .ok (.invokevirtual 155, 3) := by decide +kernel
theorem dX9_appendToOrder_5 : decode cX9_appendToOrder 5 = .ok (.ifCond .ne 6, 3) := by decide +kernel
theorem dX9_appendToOrder_8 : decode cX9_appendToOrder 8 = .ok (.bipush (-9), 2) := by decide +kernel
theorem dX9_appendToOrder_10 : decode cX9_appendToOrder 10 = .ok (.ireturn, 1) := by decide +kernel
theorem dX9_appendToOrder_11 : decode cX9_appendToOrder 11 = .ok (.aload_n 0, 1) := by decide +kernel
theorem dX9_appendToOrder_12 : decode cX9_appendToOrder 12 = .ok (.iload_n 1, 1) := by decide +kernel
theorem dX9_appendToOrder_13 : decode cX9_appendToOrder 13 = .ok (.invokevirtual 223, 3) := by decide +kernel
theorem dX9_appendToOrder_16 : decode cX9_appendToOrder 16 = .ok (.bipush (-10), 2) := by decide +kernel
theorem dX9_appendToOrder_18 : decode cX9_appendToOrder 18 = .ok (.if_icmp .eq 6, 3) := by decide +kernel
theorem dX9_appendToOrder_21 : decode cX9_appendToOrder 21 = .ok (.bipush (-12), 2) := by decide +kernel
theorem dX9_appendToOrder_23 : decode cX9_appendToOrder 23 = .ok (.ireturn, 1) := by decide +kernel
theorem dX9_appendToOrder_24 : decode cX9_appendToOrder 24 = .ok (.aload_n 0, 1) := by decide +kernel
theorem dX9_appendToOrder_25 : decode cX9_appendToOrder 25 = .ok (.getfield 49, 3) := by decide +kernel
theorem dX9_appendToOrder_28 : decode cX9_appendToOrder 28 = .ok (.aload_n 0, 1) := by decide +kernel
theorem dX9_appendToOrder_29 : decode cX9_appendToOrder 29 = .ok (.getfield 107, 3) := by decide +kernel
theorem dX9_appendToOrder_32 : decode cX9_appendToOrder 32 = .ok (.iload_n 1, 1) := by decide +kernel
theorem dX9_appendToOrder_33 : decode cX9_appendToOrder 33 = .ok (.iastore, 1) := by decide +kernel
theorem dX9_appendToOrder_34 : decode cX9_appendToOrder 34 = .ok (.aload_n 0, 1) := by decide +kernel
theorem dX9_appendToOrder_35 : decode cX9_appendToOrder 35 = .ok (.dup, 1) := by decide +kernel
theorem dX9_appendToOrder_36 : decode cX9_appendToOrder 36 = .ok (.getfield 107, 3) := by decide +kernel
theorem dX9_appendToOrder_39 : decode cX9_appendToOrder 39 = .ok (.iconst 1, 1) := by decide +kernel
theorem dX9_appendToOrder_40 : decode cX9_appendToOrder 40 = .ok (.iadd, 1) := by decide +kernel
theorem dX9_appendToOrder_41 : decode cX9_appendToOrder 41 = .ok (.putfield 107, 3) := by decide +kernel
theorem dX9_appendToOrder_44 : decode cX9_appendToOrder 44 = .ok (.aload_n 0, 1) := by decide +kernel
theorem dX9_appendToOrder_45 : decode cX9_appendToOrder 45 = .ok (.getfield 107, 3) := by decide +kernel
theorem dX9_appendToOrder_48 : decode cX9_appendToOrder 48 = .ok (.ireturn, 1) := by decide +kernel
theorem dX9_removeFromOrder_0 : decode cX9_removeFromOrder 0 = .ok (.aload_n 0, 1) := by decide +kernel
theorem dX9_removeFromOrder_1 : decode cX9_removeFromOrder 1 = .ok (.iload_n 1, 1) := by decide +kernel
theorem dX9_removeFromOrder_2 : decode cX9_removeFromOrder 2 = .ok (.invokevirtual 155, 3) := by decide +kernel
theorem dX9_removeFromOrder_5 : decode cX9_removeFromOrder 5 = .ok (.ifCond .ne 6, 3) := by decide +kernel
theorem dX9_removeFromOrder_8 : decode cX9_removeFromOrder 8 = .ok (.bipush (-9), 2) := by decide +kernel
theorem dX9_removeFromOrder_10 : decode cX9_removeFromOrder 10 = .ok (.ireturn, 1) := by decide +kernel
theorem dX9_removeFromOrder_11 : decode cX9_removeFromOrder 11 = .ok (.aload_n 0, 1) := by decide +kernel
theorem dX9_removeFromOrder_12 : decode cX9_removeFromOrder 12 = .ok (.iload_n 1, 1) := by decide +kernel
theorem dX9_removeFromOrder_13 : decode cX9_removeFromOrder 13 = .ok (.invokevirtual 223, 3) := by decide +kernel
theorem dX9_removeFromOrder_16 : decode cX9_removeFromOrder 16 = .ok (.istore_n 2, 1) := by decide +kernel
theorem dX9_removeFromOrder_17 : decode cX9_removeFromOrder 17 = .ok (.iload_n 2, 1) := by decide +kernel
theorem dX9_removeFromOrder_18 : decode cX9_removeFromOrder 18 = .ok (.bipush (-10), 2) := by decide +kernel
theorem dX9_removeFromOrder_20 : decode cX9_removeFromOrder 20 = .ok (.if_icmp .eq 43, 3) := by decide +kernel
theorem dX9_removeFromOrder_23 : decode cX9_removeFromOrder 23 = .ok (.aload_n 0, 1) := by decide +kernel
theorem dX9_removeFromOrder_24 : decode cX9_removeFromOrder 24 = .ok (.dup, 1) := by decide +kernel
theorem dX9_removeFromOrder_25 : decode cX9_removeFromOrder 25 = .ok (.getfield 107, 3) := by decide +kernel
theorem dX9_removeFromOrder_28 : decode cX9_removeFromOrder 28 = .ok (.iconst 1, 1) := by decide +kernel
theorem dX9_removeFromOrder_29 : decode cX9_removeFromOrder 29 = .ok (.isub, 1) := by decide +kernel
theorem dX9_removeFromOrder_30 : decode cX9_removeFromOrder 30 = .ok (.putfield 107, 3) := by decide +kernel
theorem dX9_removeFromOrder_33 : decode cX9_removeFromOrder 33 = .ok (.iload_n 2, 1) := by decide +kernel
theorem dX9_removeFromOrder_34 : decode cX9_removeFromOrder 34 = .ok (.istore_n 3, 1) := by decide +kernel
theorem dX9_removeFromOrder_35 : decode cX9_removeFromOrder 35 = .ok (.iload_n 3, 1) := by decide +kernel
theorem dX9_removeFromOrder_36 : decode cX9_removeFromOrder 36 = .ok (.aload_n 0, 1) := by decide +kernel
theorem dX9_removeFromOrder_37 : decode cX9_removeFromOrder 37 = .ok (.getfield 107, 3) := by decide +kernel
theorem dX9_removeFromOrder_40 : decode cX9_removeFromOrder 40 = .ok (.if_icmp .ge 23, 3) := by decide +kernel
theorem dX9_removeFromOrder_43 : decode cX9_removeFromOrder 43 = .ok (.aload_n 0, 1) := by decide +kernel
theorem dX9_removeFromOrder_44 : decode cX9_removeFromOrder 44 = .ok (.getfield 49, 3) := by decide +kernel
theorem dX9_removeFromOrder_47 : decode cX9_removeFromOrder 47 = .ok (.iload_n 3, 1) := by decide +kernel
theorem dX9_removeFromOrder_48 : decode cX9_removeFromOrder 48 = .ok (.aload_n 0, 1) := by decide +kernel
theorem dX9_removeFromOrder_49 : decode cX9_removeFromOrder 49 = .ok (.getfield 49, 3) := by decide +kernel
theorem dX9_removeFromOrder_52 : decode cX9_removeFromOrder 52 = .ok (.iload_n 3, 1) := by decide +kernel
theorem dX9_removeFromOrder_53 : decode cX9_removeFromOrder 53 = .ok (.iconst 1, 1) := by decide +kernel
theorem dX9_removeFromOrder_54 : decode cX9_removeFromOrder 54 = .ok (.iadd, 1) := by decide +kernel
theorem dX9_removeFromOrder_55 : decode cX9_removeFromOrder 55 = .ok (.iaload, 1) := by decide +kernel
theorem dX9_removeFromOrder_56 : decode cX9_removeFromOrder 56 = .ok (.iastore, 1) := by decide +kernel
theorem dX9_removeFromOrder_57 : decode cX9_removeFromOrder 57 = .ok (.iinc 3 1, 3) := by decide +kernel
theorem dX9_removeFromOrder_60 : decode cX9_removeFromOrder 60 = .ok (.goto (-25), 3) := by decide +kernel
theorem dX9_removeFromOrder_63 : decode cX9_removeFromOrder 63 = .ok (.iload_n 2, 1) := by decide +kernel
theorem dX9_removeFromOrder_64 : decode cX9_removeFromOrder 64 = .ok (.ireturn, 1) := by decide +kernel
theorem dX9_orderSize_0 : decode cX9_orderSize 0 = .ok (.aload_n 0, 1) := by decide +kernel
theorem dX9_orderSize_1 : decode cX9_orderSize 1 = .ok (.getfield 107, 3) := by decide +kernel
theorem dX9_orderSize_4 : decode cX9_orderSize 4 = .ok (.ireturn, 1) := by decide +kernel
theorem dX9_orderAt_0 : decode cX9_orderAt 0 = .ok (.iload_n 1, 1) := by decide +kernel
theorem dX9_orderAt_1 : decode cX9_orderAt 1 = .ok (.iconst 0, 1) := by decide +kernel
theorem dX9_orderAt_2 : decode cX9_orderAt 2 = .ok (.aload_n 0, 1) := by decide +kernel
theorem dX9_orderAt_3 : decode cX9_orderAt 3 = .ok (.getfield 107, 3) := by decide +kernel
theorem dX9_orderAt_6 : decode cX9_orderAt 6 = .ok (.iconst 1, 1) := by decide +kernel
theorem dX9_orderAt_7 : decode cX9_orderAt 7 = .ok (.isub, 1) := by decide +kernel
theorem dX9_orderAt_8 : decode cX9_orderAt 8 = .ok (.invokestatic 93, 3) := by decide +kernel
theorem dX9_orderAt_11 : decode cX9_orderAt 11 = .ok (.ifCond .eq 12, 3) := by decide +kernel
theorem dX9_orderAt_14 : decode cX9_orderAt 14 = .ok (.aload_n 0, 1) := by decide +kernel
theorem dX9_orderAt_15 : decode cX9_orderAt 15 = .ok (.getfield 49, 3) := by decide +kernel
theorem dX9_orderAt_18 : decode cX9_orderAt 18 = .ok (.iload_n 1, 1) := by decide +kernel
theorem dX9_orderAt_19 : decode cX9_orderAt 19 = .ok (.iaload, 1) := by decide +kernel
theorem dX9_orderAt_20 : decode cX9_orderAt 20 = .ok (.goto 5, 3) := by decide +kernel
theorem dX9_orderAt_23 : decode cX9_orderAt 23 = .ok (.bipush (-10), 2) := by decide +kernel
theorem dX9_orderAt_25 : decode cX9_orderAt 25 = .ok (.ireturn, 1) := by decide +kernel
theorem dX9_firstBadPosition_0 : decode cX9_firstBadPosition 0 = .ok (.aload_n 0, 1) := by decide +kernel
theorem dX9_firstBadPosition_1 : decode cX9_firstBadPosition 1 = .ok (.invokevirtual 213, 3) := by decide +kernel
theorem dX9_firstBadPosition_4 : decode cX9_firstBadPosition 4 = .ok (.iconst 0, 1) := by decide +kernel
theorem dX9_firstBadPosition_5 : decode cX9_firstBadPosition 5 = .ok (.istore_n 1, 1) := by decide +kernel
theorem dX9_firstBadPosition_6 : decode cX9_firstBadPosition 6 = .ok (.iconst 0, 1) := by decide +kernel
theorem dX9_firstBadPosition_7 : decode cX9_firstBadPosition 7 = .ok (.istore_n 2, 1) := by decide +kernel
theorem dX9_firstBadPosition_8 : decode cX9_firstBadPosition 8 = .ok (.iload_n 2, 1) := by decide +kernel
theorem dX9_firstBadPosition_9 : decode cX9_firstBadPosition 9 = .ok (.aload_n 0, 1) := by decide +kernel
theorem dX9_firstBadPosition_10 : decode cX9_firstBadPosition 10 = .ok (.getfield 107, 3) := by decide +kernel
theorem dX9_firstBadPosition_13 : decode cX9_firstBadPosition 13 = .ok (.if_icmp .ge 109, 3) := by decide +kernel
theorem dX9_firstBadPosition_16 : decode cX9_firstBadPosition 16 = .ok (.aload_n 0, 1) := by decide +kernel
theorem dX9_firstBadPosition_17 : decode cX9_firstBadPosition 17 = .ok (.getfield 49, 3) := by decide +kernel
theorem dX9_firstBadPosition_20 : decode cX9_firstBadPosition 20 = .ok (.iload_n 2, 1) := by decide +kernel
theorem dX9_firstBadPosition_21 : decode cX9_firstBadPosition 21 = .ok (.iaload, 1) := by decide +kernel
theorem dX9_firstBadPosition_22 : decode cX9_firstBadPosition 22 = .ok (.istore_n 3, 1) := by decide +kernel
theorem dX9_firstBadPosition_23 : decode cX9_firstBadPosition 23 = .ok (.iconst 0, 1) := by decide +kernel
theorem dX9_firstBadPosition_24 : decode cX9_firstBadPosition 24 = .ok (.istore 4, 2) := by decide +kernel
theorem dX9_firstBadPosition_26 : decode cX9_firstBadPosition 26 = .ok (.iconst 0, 1) := by decide +kernel
theorem dX9_firstBadPosition_27 : decode cX9_firstBadPosition 27 = .ok (.istore 5, 2) := by decide +kernel
theorem dX9_firstBadPosition_29 : decode cX9_firstBadPosition 29 = .ok (.iload 5, 2) := by decide +kernel
theorem dX9_firstBadPosition_31 : decode cX9_firstBadPosition 31 = .ok (.aload_n 0, 1) := by decide +kernel
theorem dX9_firstBadPosition_32 : decode cX9_firstBadPosition 32 = .ok (.getfield 101, 3) := by decide +kernel
theorem dX9_firstBadPosition_35 : decode cX9_firstBadPosition 35 = .ok (.if_icmp .ge 40, 3) := by decide +kernel
theorem dX9_firstBadPosition_38 : decode cX9_firstBadPosition 38 = .ok (.iload 4, 2) := by decide +kernel
theorem dX9_firstBadPosition_40 : decode cX9_firstBadPosition 40 = .ok (.ifCond .ne 22, 3) := by decide +kernel
theorem dX9_firstBadPosition_43 : decode cX9_firstBadPosition 43 = .ok (.aload_n 0, 1) := by decide +kernel
theorem dX9_firstBadPosition_44 : decode cX9_firstBadPosition 44 = .ok (.iload 5, 2) := by decide +kernel
theorem dX9_firstBadPosition_46 : decode cX9_firstBadPosition 46 = .ok (.iload_n 3, 1) := by decide +kernel
theorem dX9_firstBadPosition_47 : decode cX9_firstBadPosition 47 = .ok (.invokevirtual 158, 3) := by decide +kernel
theorem dX9_firstBadPosition_50 : decode cX9_firstBadPosition 50 = .ok (.ifCond .eq 16, 3) := by decide +kernel
theorem dX9_firstBadPosition_53 : decode cX9_firstBadPosition 53 = .ok (.iload_n 1, 1) := by decide +kernel
theorem dX9_firstBadPosition_54 : decode cX9_firstBadPosition 54 = .ok (.iload 5, 2) := by decide +kernel
theorem dX9_firstBadPosition_56 : decode cX9_firstBadPosition 56 = .ok (.ishr, 1) := by decide +kernel
theorem dX9_firstBadPosition_57 : decode cX9_firstBadPosition 57 = .ok (.iconst 1, 1) := by decide +kernel
theorem dX9_firstBadPosition_58 : decode cX9_firstBadPosition 58 = .ok (.iand, 1) := by decide +kernel
theorem dX9_firstBadPosition_59 : decode cX9_firstBadPosition 59 = .ok (.ifCond .ne 7, 3) := by decide +kernel
theorem dX9_firstBadPosition_62 : decode cX9_firstBadPosition 62 = .ok (.iconst 1, 1) := by decide +kernel
theorem dX9_firstBadPosition_63 : decode cX9_firstBadPosition 63 = .ok (.goto 4, 3) := by decide +kernel
theorem dX9_firstBadPosition_66 : decode cX9_firstBadPosition 66 = .ok (.iconst 0, 1) := by decide +kernel
theorem dX9_firstBadPosition_67 : decode cX9_firstBadPosition 67 = .ok (.istore 4, 2) := by decide +kernel
theorem dX9_firstBadPosition_69 : decode cX9_firstBadPosition 69 = .ok (.iinc 5 1, 3) := by decide +kernel
theorem dX9_firstBadPosition_72 : decode cX9_firstBadPosition 72 = .ok (.goto (-43), 3) := by decide +kernel
theorem dX9_firstBadPosition_75 : decode cX9_firstBadPosition 75 = .ok (.aload_n 0, 1) := by decide +kernel
theorem dX9_firstBadPosition_76 : decode cX9_firstBadPosition 76 = .ok (.iload_n 3, 1) := by decide +kernel
theorem dX9_firstBadPosition_77 : decode cX9_firstBadPosition 77 = .ok (.invokevirtual 204, 3) := by decide +kernel
theorem dX9_firstBadPosition_80 : decode cX9_firstBadPosition 80 = .ok (.istore 5, 2) := by decide +kernel
theorem dX9_firstBadPosition_82 : decode cX9_firstBadPosition 82 = .ok (.iload 4, 2) := by decide +kernel
theorem dX9_firstBadPosition_84 : decode cX9_firstBadPosition 84 = .ok (.ifCond .ne 24, 3) := by decide +kernel
theorem dX9_firstBadPosition_87 : decode cX9_firstBadPosition 87 = .ok (.aload_n 0, 1) := by decide +kernel
theorem dX9_firstBadPosition_88 : decode cX9_firstBadPosition 88 = .ok (.getfield 34, 3) := by decide +kernel
theorem dX9_firstBadPosition_91 : decode cX9_firstBadPosition 91 = .ok (.iload_n 3, 1) := by decide +kernel
theorem dX9_firstBadPosition_92 : decode cX9_firstBadPosition 92 = .ok (.iaload, 1) := by decide +kernel
theorem dX9_firstBadPosition_93 : decode cX9_firstBadPosition 93 = .ok (.iconst (-1), 1) := by decide +kernel
theorem dX9_firstBadPosition_94 : decode cX9_firstBadPosition 94 = .ok (.if_icmp .eq 16, 3) := by decide +kernel
theorem dX9_firstBadPosition_97 : decode cX9_firstBadPosition 97 = .ok (.iload 5, 2) := by decide +kernel
theorem dX9_firstBadPosition_99 : decode cX9_firstBadPosition 99 = .ok (.aload_n 0, 1) := by decide +kernel
theorem dX9_firstBadPosition_100 : decode cX9_firstBadPosition 100 = .ok (.getfield 37, 3) := by decide +kernel
theorem dX9_firstBadPosition_103 : decode cX9_firstBadPosition 103 = .ok (.iload_n 3, 1) := by decide +kernel
theorem dX9_firstBadPosition_104 : decode cX9_firstBadPosition 104 = .ok (.iaload, 1) := by decide +kernel
theorem dX9_firstBadPosition_105 : decode cX9_firstBadPosition 105 = .ok (.if_icmp .eq 5, 3) := by decide +kernel
theorem dX9_firstBadPosition_108 : decode cX9_firstBadPosition 108 = .ok (.iload_n 2, 1) := by decide +kernel
theorem dX9_firstBadPosition_109 : decode cX9_firstBadPosition 109 = .ok (.ireturn, 1) := by decide +kernel
theorem dX9_firstBadPosition_110 : decode cX9_firstBadPosition 110 = .ok (.iload_n 1, 1) := by decide +kernel
theorem dX9_firstBadPosition_111 : decode cX9_firstBadPosition 111 = .ok (.iconst 1, 1) := by decide +kernel
theorem dX9_firstBadPosition_112 : decode cX9_firstBadPosition 112 = .ok (.iload_n 3, 1) := by decide +kernel
theorem dX9_firstBadPosition_113 : decode cX9_firstBadPosition 113 = .ok (.ishl, 1) := by decide +kernel
theorem dX9_firstBadPosition_114 : decode cX9_firstBadPosition 114 = .ok (.ior, 1) := by decide +kernel
theorem dX9_firstBadPosition_115 : decode cX9_firstBadPosition 115 = .ok (.istore_n 1, 1) := by decide +kernel
theorem dX9_firstBadPosition_116 : decode cX9_firstBadPosition 116 = .ok (.iinc 2 1, 3) := by decide +kernel
theorem dX9_firstBadPosition_119 : decode cX9_firstBadPosition 119 = .ok (.goto (-111), 3) := by decide +kernel
theorem dX9_firstBadPosition_122 : decode cX9_firstBadPosition 122 = .ok (.bipush (-10), 2) := by decide +kernel
theorem dX9_firstBadPosition_124 : decode cX9_firstBadPosition 124 = .ok (.ireturn, 1) := by decide +kernel
theorem dX9_isOrderLinearization_0 : decode cX9_isOrderLinearization 0 = .ok (.aload_n 0, 1) := by decide +kernel
theorem dX9_isOrderLinearization_1 : decode cX9_isOrderLinearization 1 = .ok (.invokevirtual 226, 3) := by decide +kernel
theorem dX9_isOrderLinearization_4 : decode cX9_isOrderLinearization 4 = .ok (.bipush (-10), 2) := by decide +kernel
theorem dX9_isOrderLinearization_6 : decode cX9_isOrderLinearization 6 = .ok (.if_icmp .ne 7, 3) := by decide +kernel
theorem dX9_isOrderLinearization_9 : decode cX9_isOrderLinearization 9 = .ok (.iconst 1, 1) := by decide +kernel
theorem dX9_isOrderLinearization_10 : decode cX9_isOrderLinearization 10 = .ok (.goto 4, 3) := by decide +kernel
theorem dX9_isOrderLinearization_13 : decode cX9_isOrderLinearization 13 = .ok (.iconst 0, 1) := by decide +kernel
theorem dX9_isOrderLinearization_14 : decode cX9_isOrderLinearization 14 = .ok (.istore_n 1, 1) := by decide +kernel
theorem dX9_isOrderLinearization_15 : decode cX9_isOrderLinearization 15 = .ok (.iconst 0, 1) := by decide +kernel
theorem dX9_isOrderLinearization_16 : decode cX9_isOrderLinearization 16 = .ok (.istore_n 2, 1) := by decide +kernel
theorem dX9_isOrderLinearization_17 : decode cX9_isOrderLinearization 17 = .ok (.iload_n 2, 1) := by decide +kernel
theorem dX9_isOrderLinearization_18 : decode cX9_isOrderLinearization 18 = .ok (.aload_n 0, 1) := by decide +kernel
theorem dX9_isOrderLinearization_19 : decode cX9_isOrderLinearization 19 = .ok (.getfield 101, 3) := by decide +kernel
theorem dX9_isOrderLinearization_22 : decode cX9_isOrderLinearization 22 = .ok (.if_icmp .ge 39, 3) := by decide +kernel
theorem dX9_isOrderLinearization_25 : decode cX9_isOrderLinearization 25 = .ok (.iload_n 1, 1) := by decide +kernel
theorem dX9_isOrderLinearization_26 : decode cX9_isOrderLinearization 26 = .ok (.ifCond .eq 27, 3) := by decide +kernel
theorem dX9_isOrderLinearization_29 : decode cX9_isOrderLinearization 29 = .ok (.aload_n 0, 1) := by decide +kernel
theorem dX9_isOrderLinearization_30 : decode cX9_isOrderLinearization 30 = .ok (.getfield 34, 3) := by decide +kernel
theorem dX9_isOrderLinearization_33 : decode cX9_isOrderLinearization 33 = .ok (.iload_n 2, 1) := by decide +kernel
theorem dX9_isOrderLinearization_34 : decode cX9_isOrderLinearization 34 = .ok (.iaload, 1) := by decide +kernel
theorem dX9_isOrderLinearization_35 : decode cX9_isOrderLinearization 35 = .ok (.iconst (-1), 1) := by decide +kernel
theorem dX9_isOrderLinearization_36 : decode cX9_isOrderLinearization 36 = .ok (.if_icmp .eq 13, 3) := by decide +kernel
theorem dX9_isOrderLinearization_39 : decode cX9_isOrderLinearization 39 = .ok (.aload_n 0, 1) := by decide +kernel
theorem dX9_isOrderLinearization_40 : decode cX9_isOrderLinearization 40 = .ok (.iload_n 2, 1) := by decide +kernel
theorem dX9_isOrderLinearization_41 : decode cX9_isOrderLinearization 41 = .ok (.invokevirtual 223, 3) := by decide +kernel
theorem dX9_isOrderLinearization_44 : decode cX9_isOrderLinearization 44 = .ok (.bipush (-10), 2) := by decide +kernel
theorem dX9_isOrderLinearization_46 : decode cX9_isOrderLinearization 46 = .ok (.if_icmp .eq 7, 3) := by decide +kernel
theorem dX9_isOrderLinearization_49 : decode cX9_isOrderLinearization 49 = .ok (.iconst 1, 1) := by decide +kernel
theorem dX9_isOrderLinearization_50 : decode cX9_isOrderLinearization 50 = .ok (.goto 4, 3) := by decide +kernel
theorem dX9_isOrderLinearization_53 : decode cX9_isOrderLinearization 53 = .ok (.iconst 0, 1) := by decide +kernel
theorem dX9_isOrderLinearization_54 : decode cX9_isOrderLinearization 54 = .ok (.istore_n 1, 1) := by decide +kernel
theorem dX9_isOrderLinearization_55 : decode cX9_isOrderLinearization 55 = .ok (.iinc 2 1, 3) := by decide +kernel
theorem dX9_isOrderLinearization_58 : decode cX9_isOrderLinearization 58 = .ok (.goto (-41), 3) := by decide +kernel
theorem dX9_isOrderLinearization_61 : decode cX9_isOrderLinearization 61 = .ok (.iload_n 1, 1) := by decide +kernel
theorem dX9_isOrderLinearization_62 : decode cX9_isOrderLinearization 62 = .ok (.ifCond .eq 7, 3) := by decide +kernel
theorem dX9_isOrderLinearization_65 : decode cX9_isOrderLinearization 65 = .ok (.iconst 1, 1) := by decide +kernel
theorem dX9_isOrderLinearization_66 : decode cX9_isOrderLinearization 66 = .ok (.goto 4, 3) := by decide +kernel
theorem dX9_isOrderLinearization_69 : decode cX9_isOrderLinearization 69 = .ok (.iconst 0, 1) := by decide +kernel
theorem dX9_isOrderLinearization_70 : decode cX9_isOrderLinearization 70 = .ok (.ireturn, 1) := by decide +kernel
theorem dX9_appendCharacter_0 : decode cX9_appendCharacter 0 = .ok (.iload_n 1, 1) := by decide +kernel
theorem dX9_appendCharacter_1 : decode cX9_appendCharacter 1 = .ok (.bipush 32, 2) := by decide +kernel
theorem dX9_appendCharacter_3 : decode cX9_appendCharacter 3 = .ok (.bipush 126, 2) := by decide +kernel
theorem dX9_appendCharacter_5 : decode cX9_appendCharacter 5 = .ok (.invokestatic 93, 3) := by decide +kernel
theorem dX9_appendCharacter_8 : decode cX9_appendCharacter 8 = .ok (.ifCond .ne 6, 3) := by decide +kernel
theorem dX9_appendCharacter_11 : decode cX9_appendCharacter 11 = .ok (.bipush (-4), 2) := by decide +kernel
theorem dX9_appendCharacter_13 : decode cX9_appendCharacter 13 = .ok (.ireturn, 1) := by decide +kernel
theorem dX9_appendCharacter_14 : decode cX9_appendCharacter 14 = .ok (.aload_n 0, 1) := by decide +kernel
theorem dX9_appendCharacter_15 : decode cX9_appendCharacter 15 = .ok (.getfield 230, 3) := by decide +kernel
theorem dX9_appendCharacter_18 : decode cX9_appendCharacter 18 = .ok (.bipush 120, 2) := by decide +kernel
theorem dX9_appendCharacter_20 : decode cX9_appendCharacter 20 = .ok (.if_icmp .ne 6, 3) := by decide +kernel
theorem dX9_appendCharacter_23 : decode cX9_appendCharacter 23 = .ok (.bipush (-8), 2) := by decide +kernel
theorem dX9_appendCharacter_25 : decode cX9_appendCharacter 25 = .ok (.ireturn, 1) := by decide +kernel
theorem dX9_appendCharacter_26 : decode cX9_appendCharacter 26 = .ok (.aload_n 0, 1) := by decide +kernel
theorem dX9_appendCharacter_27 : decode cX9_appendCharacter 27 = .ok (.getfield 84, 3) := by decide +kernel
theorem dX9_appendCharacter_30 : decode cX9_appendCharacter 30 = .ok (.aload_n 0, 1) := by decide +kernel
theorem dX9_appendCharacter_31 : decode cX9_appendCharacter 31 = .ok (.getfield 230, 3) := by decide +kernel
theorem dX9_appendCharacter_34 : decode cX9_appendCharacter 34 = .ok (.iload_n 1, 1) := by decide +kernel
theorem dX9_appendCharacter_35 : decode cX9_appendCharacter 35 = .ok (.iastore, 1) := by decide +kernel
theorem dX9_appendCharacter_36 : decode cX9_appendCharacter 36 = .ok (.aload_n 0, 1) := by decide +kernel
theorem dX9_appendCharacter_37 : decode cX9_appendCharacter 37 = .ok (.dup, 1) := by decide +kernel
theorem dX9_appendCharacter_38 : decode cX9_appendCharacter 38 = .ok (.getfield 230, 3) := by decide +kernel
theorem dX9_appendCharacter_41 : decode cX9_appendCharacter 41 = .ok (.iconst 1, 1) := by decide +kernel
theorem dX9_appendCharacter_42 : decode cX9_appendCharacter 42 = .ok (.iadd, 1) := by decide +kernel
theorem dX9_appendCharacter_43 : decode cX9_appendCharacter 43 = .ok (.putfield 230, 3) := by decide +kernel
theorem dX9_appendCharacter_46 : decode cX9_appendCharacter 46 = .ok (.aload_n 0, 1) := by decide +kernel
theorem dX9_appendCharacter_47 : decode cX9_appendCharacter 47 = .ok (.getfield 230, 3) := by decide +kernel
theorem dX9_appendCharacter_50 : decode cX9_appendCharacter 50 = .ok (.ireturn, 1) := by decide +kernel
theorem dX9_clearText_0 : decode cX9_clearText 0 = .ok (.aload_n 0, 1) := by decide +kernel
theorem dX9_clearText_1 : decode cX9_clearText 1 = .ok (.getfield 230, 3) := by decide +kernel
theorem dX9_clearText_4 : decode cX9_clearText 4 = .ok (.istore_n 1, 1) := by decide +kernel
theorem dX9_clearText_5 : decode cX9_clearText 5 = .ok (.aload_n 0, 1) := by decide +kernel
theorem dX9_clearText_6 : decode cX9_clearText 6 = .ok (.iconst 0, 1) := by decide +kernel
theorem dX9_clearText_7 : decode cX9_clearText 7 = .ok (.putfield 230, 3) := by decide +kernel
theorem dX9_clearText_10 : decode cX9_clearText 10 = .ok (.iload_n 1, 1) := by decide +kernel
theorem dX9_clearText_11 : decode cX9_clearText 11 = .ok (.ireturn, 1) := by decide +kernel
theorem dX9_isAt_0 : decode cX9_isAt 0 = .ok (.aload_n 0, 1) := by decide +kernel
theorem dX9_isAt_1 : decode cX9_isAt 1 = .ok (.getfield 233, 3) := by decide +kernel
theorem dX9_isAt_4 : decode cX9_isAt 4 = .ok (.aload_n 0, 1) := by decide +kernel
theorem dX9_isAt_5 : decode cX9_isAt 5 = .ok (.getfield 236, 3) := by decide +kernel
theorem dX9_isAt_8 : decode cX9_isAt 8 = .ok (.if_icmp .ge 24, 3) := by decide +kernel
theorem dX9_isAt_11 : decode cX9_isAt 11 = .ok (.aload_n 0, 1) := by decide +kernel
theorem dX9_isAt_12 : decode cX9_isAt 12 = .ok (.getfield 84, 3) := by decide +kernel
theorem dX9_isAt_15 : decode cX9_isAt 15 = .ok (.aload_n 0, 1) := by decide +kernel
theorem dX9_isAt_16 : decode cX9_isAt 16 = .ok (.getfield 233, 3) := by decide +kernel
theorem dX9_isAt_19 : decode cX9_isAt 19 = .ok (.iaload, 1) := by decide +kernel
theorem dX9_isAt_20 : decode cX9_isAt 20 = .ok (.iload_n 1, 1) := by decide +kernel
theorem dX9_isAt_21 : decode cX9_isAt 21 = .ok (.iload_n 2, 1) := by decide +kernel
theorem dX9_isAt_22 : decode cX9_isAt 22 = .ok (.invokestatic 93, 3) := by decide +kernel
theorem dX9_isAt_25 : decode cX9_isAt 25 = .ok (.ifCond .eq 7, 3) := by decide +kernel
theorem dX9_isAt_28 : decode cX9_isAt 28 = .ok (.iconst 1, 1) := by decide +kernel
theorem dX9_isAt_29 : decode cX9_isAt 29 = .ok (.goto 4, 3) := by decide +kernel
theorem dX9_isAt_32 : decode cX9_isAt 32 = .ok (.iconst 0, 1) := by decide +kernel
theorem dX9_isAt_33 : decode cX9_isAt 33 = .ok (.ireturn, 1) := by decide +kernel
theorem dX9_takes_0 : decode cX9_takes 0 = .ok (.aload_n 0, 1) := by decide +kernel
theorem dX9_takes_1 : decode cX9_takes 1 = .ok (.iload_n 1, 1) := by decide +kernel
theorem dX9_takes_2 : decode cX9_takes 2 = .ok (.iload_n 1, 1) := by decide +kernel
theorem dX9_takes_3 : decode cX9_takes 3 = .ok (.invokevirtual 239, 3) := by decide +kernel
theorem dX9_takes_6 : decode cX9_takes 6 = .ok (.istore_n 2, 1) := by decide +kernel
theorem dX9_takes_7 : decode cX9_takes 7 = .ok (.aload_n 0, 1) := by decide +kernel
theorem dX9_takes_8 : decode cX9_takes 8 = .ok (.dup, 1) := by decide +kernel
theorem dX9_takes_9 : decode cX9_takes 9 = .ok (.getfield 233, 3) := by decide +kernel
theorem dX9_takes_12 : decode cX9_takes 12 = .ok (.iload_n 2, 1) := by decide +kernel
theorem dX9_takes_13 : decode cX9_takes 13 = .ok (.ifCond .eq 7, 3) := by decide +kernel
theorem dX9_takes_16 : decode cX9_takes 16 = .ok (.iconst 1, 1) := by decide +kernel
theorem dX9_takes_17 : decode cX9_takes 17 = .ok (.goto 4, 3) := by decide +kernel
theorem dX9_takes_20 : decode cX9_takes 20 = .ok (.iconst 0, 1) := by decide +kernel
theorem dX9_takes_21 : decode cX9_takes 21 = .ok (.iadd, 1) := by decide +kernel
theorem dX9_takes_22 : decode cX9_takes 22 = .ok (.putfield 233, 3) := by decide +kernel
theorem dX9_takes_25 : decode cX9_takes 25 = .ok (.iload_n 2, 1) := by decide +kernel
theorem dX9_takes_26 : decode cX9_takes 26 = .ok (.ireturn, 1) := by decide +kernel
theorem dX9_takesDigit_0 : decode cX9_takesDigit 0 = .ok (.aload_n 0, 1) := by decide +kernel
theorem dX9_takesDigit_1 : decode cX9_takesDigit 1 = .ok (.bipush 48, 2) := by decide +kernel
theorem dX9_takesDigit_3 : decode cX9_takesDigit 3 = .ok (.bipush 57, 2) := by decide +kernel
theorem dX9_takesDigit_5 : decode cX9_takesDigit 5 = .ok (.invokevirtual 239, 3) := by decide +kernel
theorem dX9_takesDigit_8 : decode cX9_takesDigit 8 = .ok (.ifCond .ne 5, 3) := by decide +kernel
theorem dX9_takesDigit_11 : decode cX9_takesDigit 11 = .ok (.iconst 0, 1) := by decide +kernel
theorem dX9_takesDigit_12 : decode cX9_takesDigit 12 = .ok (.ireturn, 1) := by decide +kernel
theorem dX9_takesDigit_13 : decode cX9_takesDigit 13 = .ok (.aload_n 0, 1) := by decide +kernel
theorem dX9_takesDigit_14 : decode cX9_takesDigit 14 = .ok (.getfield 87, 3) := by decide +kernel
theorem dX9_takesDigit_17 : decode cX9_takesDigit 17 = .ok (.iload_n 1, 1) := by decide +kernel
theorem dX9_takesDigit_18 : decode cX9_takesDigit 18 = .ok (.aload_n 0, 1) := by decide +kernel
theorem dX9_takesDigit_19 : decode cX9_takesDigit 19 = .ok (.getfield 84, 3) := by decide +kernel
theorem dX9_takesDigit_22 : decode cX9_takesDigit 22 = .ok (.aload_n 0, 1) := by decide +kernel
theorem dX9_takesDigit_23 : decode cX9_takesDigit 23 = .ok (.getfield 233, 3) := by decide +kernel
theorem dX9_takesDigit_26 : decode cX9_takesDigit 26 = .ok (.iaload, 1) := by decide +kernel
theorem dX9_takesDigit_27 : decode cX9_takesDigit 27 = .ok (.bipush 48, 2) := by decide +kernel
theorem dX9_takesDigit_29 : decode cX9_takesDigit 29 = .ok (.isub, 1) := by decide +kernel
theorem dX9_takesDigit_30 : decode cX9_takesDigit 30 = .ok (.iastore, 1) := by decide +kernel
theorem dX9_takesDigit_31 : decode cX9_takesDigit 31 = .ok (.aload_n 0, 1) := by decide +kernel
theorem dX9_takesDigit_32 : decode cX9_takesDigit 32 = .ok (.dup, 1) := by decide +kernel
theorem dX9_takesDigit_33 : decode cX9_takesDigit 33 = .ok (.getfield 233, 3) := by decide +kernel
theorem dX9_takesDigit_36 : decode cX9_takesDigit 36 = .ok (.iconst 1, 1) := by decide +kernel
theorem dX9_takesDigit_37 : decode cX9_takesDigit 37 = .ok (.iadd, 1) := by decide +kernel
theorem dX9_takesDigit_38 : decode cX9_takesDigit 38 = .ok (.putfield 233, 3) := by decide +kernel
theorem dX9_takesDigit_41 : decode cX9_takesDigit 41 = .ok (.iconst 1, 1) := by decide +kernel
theorem dX9_takesDigit_42 : decode cX9_takesDigit 42 = .ok (.ireturn, 1) := by decide +kernel
theorem dX9_takesNumber_0 : decode cX9_takesNumber 0 = .ok (.aload_n 0, 1) := by decide +kernel
theorem dX9_takesNumber_1 : decode cX9_takesNumber 1 = .ok (.bipush 45, 2) := by decide +kernel
theorem dX9_takesNumber_3 : decode cX9_takesNumber 3 = .ok (.invokevirtual 242, 3) := by decide +kernel
theorem dX9_takesNumber_6 : decode cX9_takesNumber 6 = .ok (.istore_n 2, 1) := by decide +kernel
theorem dX9_takesNumber_7 : decode cX9_takesNumber 7 = .ok (.aload_n 0, 1) := by decide +kernel
theorem dX9_takesNumber_8 : decode cX9_takesNumber 8 = .ok (.bipush 48, 2) := by decide +kernel
theorem dX9_takesNumber_10 : decode cX9_takesNumber 10 = .ok (.bipush 57, 2) := by decide +kernel
theorem dX9_takesNumber_12 : decode cX9_takesNumber 12 = .ok (.invokevirtual 239, 3) := by decide +kernel
theorem dX9_takesNumber_15 : decode cX9_takesNumber 15 = .ok (.ifCond .ne 5, 3) := by decide +kernel
theorem dX9_takesNumber_18 : decode cX9_takesNumber 18 = .ok (.iconst 0, 1) := by decide +kernel
theorem dX9_takesNumber_19 : decode cX9_takesNumber 19 = .ok (.ireturn, 1) := by decide +kernel
theorem dX9_takesNumber_20 : decode cX9_takesNumber 20 = .ok (.iconst 0, 1) := by decide +kernel
theorem dX9_takesNumber_21 : decode cX9_takesNumber 21 = .ok (.istore_n 3, 1) := by decide +kernel
theorem dX9_takesNumber_22 : decode cX9_takesNumber 22 = .ok (.iconst 0, 1) := by decide +kernel
theorem dX9_takesNumber_23 : decode cX9_takesNumber 23 = .ok (.istore 4, 2) := by decide +kernel
theorem dX9_takesNumber_25 : decode cX9_takesNumber 25 = .ok (.iload 4, 2) := by decide +kernel
theorem dX9_takesNumber_27 : decode cX9_takesNumber 27 = .ok (.iconst 3, 1) := by decide +kernel
theorem dX9_takesNumber_28 : decode cX9_takesNumber 28 = .ok (.if_icmp .ge 48, 3) := by decide +kernel
theorem dX9_takesNumber_31 : decode cX9_takesNumber 31 = .ok (.aload_n 0, 1) := by decide +kernel
theorem dX9_takesNumber_32 : decode cX9_takesNumber 32 = .ok (.bipush 48, 2) := by decide +kernel
theorem dX9_takesNumber_34 : decode cX9_takesNumber 34 = .ok (.bipush 57, 2) := by decide +kernel
theorem dX9_takesNumber_36 : decode cX9_takesNumber 36 = .ok (.invokevirtual 239, 3) := by decide +kernel
theorem dX9_takesNumber_39 : decode cX9_takesNumber 39 = .ok (.ifCond .eq 37, 3) := by decide +kernel
theorem dX9_takesNumber_42 : decode cX9_takesNumber 42 = .ok (.bipush 10, 2) := by decide +kernel
theorem dX9_takesNumber_44 : decode cX9_takesNumber 44 = .ok (.iload_n 3, 1) := by decide +kernel
theorem dX9_takesNumber_45 : decode cX9_takesNumber 45 = .ok (.imul, 1) := by decide +kernel
theorem dX9_takesNumber_46 : decode cX9_takesNumber 46 = .ok (.aload_n 0, 1) := by decide +kernel
theorem dX9_takesNumber_47 : decode cX9_takesNumber 47 = .ok (.getfield 84, 3) := by decide +kernel
theorem dX9_takesNumber_50 : decode cX9_takesNumber 50 = .ok (.aload_n 0, 1) := by decide +kernel
theorem dX9_takesNumber_51 : decode cX9_takesNumber 51 = .ok (.getfield 233, 3) := by decide +kernel
theorem dX9_takesNumber_54 : decode cX9_takesNumber 54 = .ok (.iaload, 1) := by decide +kernel
theorem dX9_takesNumber_55 : decode cX9_takesNumber 55 = .ok (.iadd, 1) := by decide +kernel
theorem dX9_takesNumber_56 : decode cX9_takesNumber 56 = .ok (.bipush 48, 2) := by decide +kernel
theorem dX9_takesNumber_58 : decode cX9_takesNumber 58 = .ok (.isub, 1) := by decide +kernel
theorem dX9_takesNumber_59 : decode cX9_takesNumber 59 = .ok (.istore_n 3, 1) := by decide +kernel
theorem dX9_takesNumber_60 : decode cX9_takesNumber 60 = .ok (.aload_n 0, 1) := by decide +kernel
theorem dX9_takesNumber_61 : decode cX9_takesNumber 61 = .ok (.dup, 1) := by decide +kernel
theorem dX9_takesNumber_62 : decode cX9_takesNumber 62 = .ok (.getfield 233, 3) := by decide +kernel
theorem dX9_takesNumber_65 : decode cX9_takesNumber 65 = .ok (.iconst 1, 1) := by decide +kernel
theorem dX9_takesNumber_66 : decode cX9_takesNumber 66 = .ok (.iadd, 1) := by decide +kernel
theorem dX9_takesNumber_67 : decode cX9_takesNumber 67 = .ok (.putfield 233, 3) := by decide +kernel
theorem dX9_takesNumber_70 : decode cX9_takesNumber 70 = .ok (.iinc 4 1, 3) := by decide +kernel
theorem dX9_takesNumber_73 : decode cX9_takesNumber 73 = .ok (.goto (-48), 3) := by decide +kernel
theorem dX9_takesNumber_76 : decode cX9_takesNumber 76 = .ok (.aload_n 0, 1) := by decide +kernel
theorem dX9_takesNumber_77 : decode cX9_takesNumber 77 = .ok (.getfield 87, 3) := by decide +kernel
theorem dX9_takesNumber_80 : decode cX9_takesNumber 80 = .ok (.iload_n 1, 1) := by decide +kernel
theorem dX9_takesNumber_81 : decode cX9_takesNumber 81 = .ok (.iload_n 2, 1) := by decide +kernel
theorem dX9_takesNumber_82 : decode cX9_takesNumber 82 = .ok (.ifCond .eq 8, 3) := by decide +kernel
theorem dX9_takesNumber_85 : decode cX9_takesNumber 85 = .ok (.iload_n 3, 1) := by decide +kernel
theorem dX9_takesNumber_86 : decode cX9_takesNumber 86 = .ok (.ineg, 1) := by decide +kernel
theorem dX9_takesNumber_87 : decode cX9_takesNumber 87 = .ok (.goto 4, 3) := by decide +kernel
theorem dX9_takesNumber_90 : decode cX9_takesNumber 90 = .ok (.iload_n 3, 1) := by decide +kernel
theorem dX9_takesNumber_91 : decode cX9_takesNumber 91 = .ok (.iastore, 1) := by decide +kernel
theorem dX9_takesNumber_92 : decode cX9_takesNumber 92 = .ok (.iconst 1, 1) := by decide +kernel
theorem dX9_takesNumber_93 : decode cX9_takesNumber 93 = .ok (.ireturn, 1) := by decide +kernel
theorem dX9_matched_0 : decode cX9_matched 0 = .ok (.iconst 0, 1) := by decide +kernel
theorem dX9_matched_1 : decode cX9_matched 1 = .ok (.istore_n 3, 1) := by decide +kernel
theorem dX9_matched_2 : decode cX9_matched 2 = .ok (.aload_n 0, 1) := by decide +kernel
theorem dX9_matched_3 : decode cX9_matched 3 = .ok (.getfield 80, 3) := by decide +kernel
theorem dX9_matched_6 : decode cX9_matched 6 = .ok (.iload_n 2, 1) := by decide +kernel
theorem dX9_matched_7 : decode cX9_matched 7 = .ok (.iload_n 3, 1) := by decide +kernel
theorem dX9_matched_8 : decode cX9_matched 8 = .ok (.iadd, 1) := by decide +kernel
theorem dX9_matched_9 : decode cX9_matched 9 = .ok (.caload, 1) := by decide +kernel
theorem dX9_matched_10 : decode cX9_matched 10 = .ok (.bipush 32, 2) := by decide +kernel
theorem dX9_matched_12 : decode cX9_matched 12 = .ok (.if_icmp .eq 38, 3) := by decide +kernel
theorem dX9_matched_15 : decode cX9_matched 15 = .ok (.iload_n 1, 1) := by decide +kernel
theorem dX9_matched_16 : decode cX9_matched 16 = .ok (.iload_n 3, 1) := by decide +kernel
theorem dX9_matched_17 : decode cX9_matched 17 = .ok (.iadd, 1) := by decide +kernel
theorem dX9_matched_18 : decode cX9_matched 18 = .ok (.aload_n 0, 1) := by decide +kernel
theorem dX9_matched_19 : decode cX9_matched 19 = .ok (.getfield 236, 3) := by decide +kernel
theorem dX9_matched_22 : decode cX9_matched 22 = .ok (.if_icmp .ge 28, 3) := by decide +kernel
theorem dX9_matched_25 : decode cX9_matched 25 = .ok (.aload_n 0, 1) := by decide +kernel
theorem dX9_matched_26 : decode cX9_matched 26 = .ok (.getfield 84, 3) := by decide +kernel
theorem dX9_matched_29 : decode cX9_matched 29 = .ok (.iload_n 1, 1) := by decide +kernel
theorem dX9_matched_30 : decode cX9_matched 30 = .ok (.iload_n 3, 1) := by decide +kernel
theorem dX9_matched_31 : decode cX9_matched 31 = .ok (.iadd, 1) := by decide +kernel
theorem dX9_matched_32 : decode cX9_matched 32 = .ok (.iaload, 1) := by decide +kernel
theorem dX9_matched_33 : decode cX9_matched 33 = .ok (.aload_n 0, 1) := by decide +kernel
theorem dX9_matched_34 : decode cX9_matched 34 = .ok (.getfield 80, 3) := by decide +kernel
theorem dX9_matched_37 : decode cX9_matched 37 = .ok (.iload_n 2, 1) := by decide +kernel
theorem dX9_matched_38 : decode cX9_matched 38 = .ok (.iload_n 3, 1) := by decide +kernel
theorem dX9_matched_39 : decode cX9_matched 39 = .ok (.iadd, 1) := by decide +kernel
theorem dX9_matched_40 : decode cX9_matched 40 = .ok (.caload, 1) := by decide +kernel
theorem dX9_matched_41 : decode cX9_matched 41 = .ok (.if_icmp .ne 9, 3) := by decide +kernel
theorem dX9_matched_44 : decode cX9_matched 44 = .ok (.iinc 3 1, 3) := by decide +kernel
theorem dX9_matched_47 : decode cX9_matched 47 = .ok (.goto (-45), 3) := by decide +kernel
theorem dX9_matched_50 : decode cX9_matched 50 = .ok (.iload_n 3, 1) := by decide +kernel
theorem dX9_matched_51 : decode cX9_matched 51 = .ok (.ireturn, 1) := by decide +kernel
theorem dX9_takesName_0 : decode cX9_takesName 0 = .ok (.aload_n 0, 1) := by decide +kernel
theorem dX9_takesName_1 : decode cX9_takesName 1 = .ok (.getfield 233, 3) := by decide +kernel
theorem dX9_takesName_4 : decode cX9_takesName 4 = .ok (.istore_n 1, 1) := by decide +kernel
theorem dX9_takesName_5 : decode cX9_takesName 5 = .ok (.iconst 0, 1) := by decide +kernel
theorem dX9_takesName_6 : decode cX9_takesName 6 = .ok (.istore_n 2, 1) := by decide +kernel
theorem dX9_takesName_7 : decode cX9_takesName 7 = .ok (.iconst 0, 1) := by decide +kernel
theorem dX9_takesName_8 : decode cX9_takesName 8 = .ok (.istore_n 3, 1) := by decide +kernel
theorem dX9_takesName_9 : decode cX9_takesName 9 = .ok (.iconst 0, 1) := by decide +kernel
theorem dX9_takesName_10 : decode cX9_takesName 10 = .ok (.istore 4, 2) := by decide +kernel
theorem dX9_takesName_12 : decode cX9_takesName 12 = .ok (.iconst 0, 1) := by decide +kernel
theorem dX9_takesName_13 : decode cX9_takesName 13 = .ok (.istore 5, 2) := by decide +kernel
theorem dX9_takesName_15 : decode cX9_takesName 15 = .ok (.iload 5, 2) := by decide +kernel
theorem dX9_takesName_17 : decode cX9_takesName 17 = .ok (.bipush 10, 2) := by decide +kernel
theorem dX9_takesName_19 : decode cX9_takesName 19 = .ok (.if_icmp .ge 73, 3) := by decide +kernel
theorem dX9_takesName_22 : decode cX9_takesName 22 = .ok (.aload_n 0, 1) := by decide +kernel
theorem dX9_takesName_23 : decode cX9_takesName 23 = .ok (.iload_n 1, 1) := by decide +kernel
theorem dX9_takesName_24 : decode cX9_takesName 24 = .ok (.iload 4, 2) := by decide +kernel
theorem dX9_takesName_26 : decode cX9_takesName 26 = .ok (.invokevirtual 245, 3) := by decide +kernel
theorem dX9_takesName_29 : decode cX9_takesName 29 = .ok (.istore 6, 2) := by decide +kernel
theorem dX9_takesName_31 : decode cX9_takesName 31 = .ok (.iconst 0, 1) := by decide +kernel
theorem dX9_takesName_32 : decode cX9_takesName 32 = .ok (.istore 7, 2) := by decide +kernel
theorem dX9_takesName_34 : decode cX9_takesName 34 = .ok (.aload_n 0, 1) := by decide +kernel
theorem dX9_takesName_35 : decode cX9_takesName 35 = .ok (.getfield 80, 3) := by decide +kernel
theorem dX9_takesName_38 : decode cX9_takesName 38 = .ok (.iload 4, 2) := by decide +kernel
theorem dX9_takesName_40 : decode cX9_takesName 40 = .ok (.iload 7, 2) := by decide +kernel
theorem dX9_takesName_42 : decode cX9_takesName 42 = .ok (.iadd, 1) := by decide +kernel
theorem dX9_takesName_43 : decode cX9_takesName 43 = .ok (.caload, 1) := by decide +kernel
theorem dX9_takesName_44 : decode cX9_takesName 44 = .ok (.bipush 32, 2) := by decide +kernel
theorem dX9_takesName_46 : decode cX9_takesName 46 = .ok (.if_icmp .eq 9, 3) := by decide +kernel
theorem dX9_takesName_49 : decode cX9_takesName 49 = .ok (.iinc 7 1, 3) := by decide +kernel
theorem dX9_takesName_52 : decode cX9_takesName 52 = .ok (.goto (-18), 3) := by decide +kernel
theorem dX9_takesName_55 : decode cX9_takesName 55 = .ok (.iload 6, 2) := by decide +kernel
theorem dX9_takesName_57 : decode cX9_takesName 57 = .ok (.iload 7, 2) := by decide +kernel
theorem dX9_takesName_59 : decode cX9_takesName 59 = .ok (.if_icmp .ne 11, 3) := by decide +kernel
theorem dX9_takesName_62 : decode cX9_takesName 62 = .ok (.aload_n 0, 1) := by decide +kernel
theorem dX9_takesName_63 : decode cX9_takesName 63 = .ok (.iload 5, 2) := by decide +kernel
theorem dX9_takesName_65 : decode cX9_takesName 65 = .ok (.putfield 248, 3) := by decide +kernel
theorem dX9_takesName_68 : decode cX9_takesName 68 = .ok (.iconst 1, 1) := by decide +kernel
theorem dX9_takesName_69 : decode cX9_takesName 69 = .ok (.istore_n 3, 1) := by decide +kernel
theorem dX9_takesName_70 : decode cX9_takesName 70 = .ok (.iload_n 2, 1) := by decide +kernel
theorem dX9_takesName_71 : decode cX9_takesName 71 = .ok (.iload 6, 2) := by decide +kernel
theorem dX9_takesName_73 : decode cX9_takesName 73 = .ok (.invokestatic 161, 3) := by decide +kernel
theorem dX9_takesName_76 : decode cX9_takesName 76 = .ok (.istore_n 2, 1) := by decide +kernel
theorem dX9_takesName_77 : decode cX9_takesName 77 = .ok (.iload 4, 2) := by decide +kernel
theorem dX9_takesName_79 : decode cX9_takesName 79 = .ok (.iload 7, 2) := by decide +kernel
theorem dX9_takesName_81 : decode cX9_takesName 81 = .ok (.iconst 1, 1) := by decide +kernel
theorem dX9_takesName_82 : decode cX9_takesName 82 = .ok (.iadd, 1) := by decide +kernel
theorem dX9_takesName_83 : decode cX9_takesName 83 = .ok (.iadd, 1) := by decide +kernel
theorem dX9_takesName_84 : decode cX9_takesName 84 = .ok (.istore 4, 2) := by decide +kernel
theorem dX9_takesName_86 : decode cX9_takesName 86 = .ok (.iinc 5 1, 3) := by decide +kernel
theorem dX9_takesName_89 : decode cX9_takesName 89 = .ok (.goto (-74), 3) := by decide +kernel
theorem dX9_takesName_92 : decode cX9_takesName 92 = .ok (.aload_n 0, 1) := by decide +kernel
theorem dX9_takesName_93 : decode cX9_takesName 93 = .ok (.iload_n 1, 1) := by decide +kernel
theorem dX9_takesName_94 : decode cX9_takesName 94 = .ok (.iload_n 2, 1) := by decide +kernel
theorem dX9_takesName_95 : decode cX9_takesName 95 = .ok (.iadd, 1) := by decide +kernel
theorem dX9_takesName_96 : decode cX9_takesName 96 = .ok (.putfield 233, 3) := by decide +kernel
theorem dX9_takesName_99 : decode cX9_takesName 99 = .ok (.iload_n 3, 1) := by decide +kernel
theorem dX9_takesName_100 : decode cX9_takesName 100 = .ok (.ireturn, 1) := by decide +kernel
theorem dX9_argumentsOf_0 : decode cX9_argumentsOf 0 = .ok (.iload_n 0, 1) := by decide +kernel
theorem dX9_argumentsOf_1 : decode cX9_argumentsOf 1 = .ok (.iconst 2, 1) := by decide +kernel
theorem dX9_argumentsOf_2 : decode cX9_argumentsOf 2 = .ok (.if_icmp .ne 7, 3) := by decide +kernel
theorem dX9_argumentsOf_5 : decode cX9_argumentsOf 5 = .ok (.iconst 2, 1) := by decide +kernel
theorem dX9_argumentsOf_6 : decode cX9_argumentsOf 6 = .ok (.goto 23, 3) := by decide +kernel
theorem dX9_argumentsOf_9 : decode cX9_argumentsOf 9 = .ok (.iload_n 0, 1) := by decide +kernel
theorem dX9_argumentsOf_10 : decode cX9_argumentsOf 10 = .ok (.ifCond .eq 14, 3) := by decide +kernel
theorem dX9_argumentsOf_13 : decode cX9_argumentsOf 13 = .ok (.iload_n 0, 1) := by decide +kernel
theorem dX9_argumentsOf_14 : decode cX9_argumentsOf 14 = .ok (.iconst 3, 1) := by decide +kernel
theorem dX9_argumentsOf_15 : decode cX9_argumentsOf 15 = .ok (.if_icmp .eq 9, 3) := by decide +kernel
theorem dX9_argumentsOf_18 : decode cX9_argumentsOf 18 = .ok (.iload_n 0, 1) := by decide +kernel
theorem dX9_argumentsOf_19 : decode cX9_argumentsOf 19 = .ok (.bipush 6, 2) := by decide +kernel
theorem dX9_argumentsOf_21 : decode cX9_argumentsOf 21 = .ok (.if_icmp .ne 7, 3) := by decide +kernel
theorem dX9_argumentsOf_24 : decode cX9_argumentsOf 24 = .ok (.iconst 0, 1) := by decide +kernel
theorem dX9_argumentsOf_25 : decode cX9_argumentsOf 25 = .ok (.goto 4, 3) := by decide +kernel
theorem dX9_argumentsOf_28 : decode cX9_argumentsOf 28 = .ok (.iconst 1, 1) := by decide +kernel
theorem dX9_argumentsOf_29 : decode cX9_argumentsOf 29 = .ok (.ireturn, 1) := by decide +kernel
theorem dX9_takesInvocation_0 : decode cX9_takesInvocation 0 = .ok (.aload_n 0, 1) := by decide +kernel
theorem dX9_takesInvocation_1 : decode cX9_takesInvocation 1 = .ok (.iconst 1, 1) := by decide +kernel
theorem dX9_takesInvocation_2 : decode cX9_takesInvocation 2 = .ok (.invokevirtual 251, 3) := by decide +kernel
theorem dX9_takesInvocation_5 : decode cX9_takesInvocation 5 = .ok (.ifCond .eq 28, 3) := by decide +kernel
theorem dX9_takesInvocation_8 : decode cX9_takesInvocation 8 = .ok (.aload_n 0, 1) := by decide +kernel
theorem dX9_takesInvocation_9 : decode cX9_takesInvocation 9 = .ok (.bipush 46, 2) := by decide +kernel
theorem dX9_takesInvocation_11 : decode cX9_takesInvocation 11 = .ok (.invokevirtual 242, 3) := by decide +kernel
theorem dX9_takesInvocation_14 : decode cX9_takesInvocation 14 = .ok (.ifCond .eq 19, 3) := by decide +kernel
theorem dX9_takesInvocation_17 : decode cX9_takesInvocation 17 = .ok (.aload_n 0, 1) := by decide +kernel
theorem dX9_takesInvocation_18 : decode cX9_takesInvocation 18 = .ok (.invokevirtual 254, 3) := by decide +kernel
theorem dX9_takesInvocation_21 : decode cX9_takesInvocation 21 = .ok (.ifCond .eq 12, 3) := by decide +kernel
theorem dX9_takesInvocation_24 : decode cX9_takesInvocation 24 = .ok (.aload_n 0, 1) := by decide +kernel
theorem dX9_takesInvocation_25 : decode cX9_takesInvocation 25 = .ok (.bipush 40, 2) := by decide +kernel
theorem dX9_takesInvocation_27 : decode cX9_takesInvocation 27 = .ok (.invokevirtual 242, 3) := by decide +kernel
theorem dX9_takesInvocation_30 : decode cX9_takesInvocation 30 = .ok (.ifCond .ne 5, 3) := by decide +kernel
theorem dX9_takesInvocation_33 : decode cX9_takesInvocation 33 = .ok (.iconst 0, 1) := by decide +kernel
theorem dX9_takesInvocation_34 : decode cX9_takesInvocation 34 = .ok (.ireturn, 1) := by decide +kernel
theorem dX9_takesInvocation_35 : decode cX9_takesInvocation 35 = .ok (.aload_n 0, 1) := by decide +kernel
theorem dX9_takesInvocation_36 : decode cX9_takesInvocation 36 = .ok (.getfield 87, 3) := by decide +kernel
theorem dX9_takesInvocation_39 : decode cX9_takesInvocation 39 = .ok (.iconst 2, 1) := by decide +kernel
theorem dX9_takesInvocation_40 : decode cX9_takesInvocation 40 = .ok (.iconst 0, 1) := by decide +kernel
theorem dX9_takesInvocation_41 : decode cX9_takesInvocation 41 = .ok (.iastore, 1) := by decide +kernel
theorem dX9_takesInvocation_42 : decode cX9_takesInvocation 42 = .ok (.aload_n 0, 1) := by decide +kernel
theorem dX9_takesInvocation_43 : decode cX9_takesInvocation 43 = .ok (.getfield 87, 3) := by decide +kernel
theorem dX9_takesInvocation_46 : decode cX9_takesInvocation 46 = .ok (.iconst 3, 1) := by decide +kernel
theorem dX9_takesInvocation_47 : decode cX9_takesInvocation 47 = .ok (.iconst 0, 1) := by decide +kernel
theorem dX9_takesInvocation_48 : decode cX9_takesInvocation 48 = .ok (.iastore, 1) := by decide +kernel
theorem dX9_takesInvocation_49 : decode cX9_takesInvocation 49 = .ok (.iconst 1, 1) := by decide +kernel
theorem dX9_takesInvocation_50 : decode cX9_takesInvocation 50 = .ok (.istore_n 1, 1) := by decide +kernel
theorem dX9_takesInvocation_51 : decode cX9_takesInvocation 51 = .ok (.iconst 0, 1) := by decide +kernel
theorem dX9_takesInvocation_52 : decode cX9_takesInvocation 52 = .ok (.istore_n 2, 1) := by decide +kernel
theorem dX9_takesInvocation_53 : decode cX9_takesInvocation 53 = .ok (.iload_n 2, 1) := by decide +kernel
theorem dX9_takesInvocation_54 : decode cX9_takesInvocation 54 = .ok (.aload_n 0, 1) := by decide +kernel
theorem dX9_takesInvocation_55 : decode cX9_takesInvocation 55 = .ok (.getfield 248, 3) := by decide +kernel
theorem dX9_takesInvocation_58 : decode cX9_takesInvocation 58 = .ok (.invokestatic 258, 3) := by decide +kernel
theorem dX9_takesInvocation_61 : decode cX9_takesInvocation 61 = .ok (.if_icmp .ge 42, 3) := by decide +kernel
theorem dX9_takesInvocation_64 : decode cX9_takesInvocation 64 = .ok (.iload_n 1, 1) := by decide +kernel
theorem dX9_takesInvocation_65 : decode cX9_takesInvocation 65 = .ok (.ifCond .eq 38, 3) := by decide +kernel
theorem dX9_takesInvocation_68 : decode cX9_takesInvocation 68 = .ok (.iload_n 2, 1) := by decide +kernel
theorem dX9_takesInvocation_69 : decode cX9_takesInvocation 69 = .ok (.ifCond .eq 12, 3) := by decide +kernel
theorem dX9_takesInvocation_72 : decode cX9_takesInvocation 72 = .ok (.aload_n 0, 1) := by decide +kernel
theorem dX9_takesInvocation_73 : decode cX9_takesInvocation 73 = .ok (.bipush 44, 2) := by decide +kernel
theorem dX9_takesInvocation_75 : decode cX9_takesInvocation 75 = .ok (.invokevirtual 242, 3) := by decide +kernel
theorem dX9_takesInvocation_78 : decode cX9_takesInvocation 78 = .ok (.ifCond .eq 17, 3) := by decide +kernel
theorem dX9_takesInvocation_81 : decode cX9_takesInvocation 81 = .ok (.aload_n 0, 1) := by decide +kernel
theorem dX9_takesInvocation_82 : decode cX9_takesInvocation 82 = .ok (.iconst 2, 1) := by decide +kernel
theorem dX9_takesInvocation_83 : decode cX9_takesInvocation 83 = .ok (.iload_n 2, 1) := by decide +kernel
theorem dX9_takesInvocation_84 : decode cX9_takesInvocation 84 = .ok (.iadd, 1) := by decide +kernel
theorem dX9_takesInvocation_85 : decode cX9_takesInvocation 85 = .ok (.invokevirtual 261, 3) := by decide +kernel
theorem dX9_takesInvocation_88 : decode cX9_takesInvocation 88 = .ok (.ifCond .eq 7, 3) := by decide +kernel
theorem dX9_takesInvocation_91 : decode cX9_takesInvocation 91 = .ok (.iconst 1, 1) := by decide +kernel
theorem dX9_takesInvocation_92 : decode cX9_takesInvocation 92 = .ok (.goto 4, 3) := by decide +kernel
theorem dX9_takesInvocation_95 : decode cX9_takesInvocation 95 = .ok (.iconst 0, 1) := by decide +kernel
theorem dX9_takesInvocation_96 : decode cX9_takesInvocation 96 = .ok (.istore_n 1, 1) := by decide +kernel
theorem dX9_takesInvocation_97 : decode cX9_takesInvocation 97 = .ok (.iinc 2 1, 3) := by decide +kernel
theorem dX9_takesInvocation_100 : decode cX9_takesInvocation 100 = .ok (.goto (-47), 3) := by decide +kernel
theorem dX9_takesInvocation_103 : decode cX9_takesInvocation 103 = .ok (.iload_n 1, 1) := by decide +kernel
theorem dX9_takesInvocation_104 : decode cX9_takesInvocation 104 = .ok (.ifCond .eq 16, 3) := by decide +kernel
theorem dX9_takesInvocation_107 : decode cX9_takesInvocation 107 = .ok (.aload_n 0, 1) := by decide +kernel
theorem dX9_takesInvocation_108 : decode cX9_takesInvocation 108 = .ok (.bipush 41, 2) := by decide +kernel
theorem dX9_takesInvocation_110 : decode cX9_takesInvocation 110 = .ok (.invokevirtual 242, 3) := by decide +kernel
theorem dX9_takesInvocation_113 : decode cX9_takesInvocation 113 = .ok (.ifCond .eq 7, 3) := by decide +kernel
theorem dX9_takesInvocation_116 : decode cX9_takesInvocation 116 = .ok (.iconst 1, 1) := by decide +kernel
theorem dX9_takesInvocation_117 : decode cX9_takesInvocation 117 = .ok (.goto 4, 3) := by decide +kernel
theorem dX9_takesInvocation_120 : decode cX9_takesInvocation 120 = .ok (.iconst 0, 1) := by decide +kernel
theorem dX9_takesInvocation_121 : decode cX9_takesInvocation 121 = .ok (.ireturn, 1) := by decide +kernel
theorem dX9_takesCommand_0 : decode cX9_takesCommand 0 = .ok (.aload_n 0, 1) := by decide +kernel
theorem dX9_takesCommand_1 : decode cX9_takesCommand 1 = .ok (.iconst 0, 1) := by decide +kernel
theorem dX9_takesCommand_2 : decode cX9_takesCommand 2 = .ok (.invokevirtual 251, 3) := by decide +kernel
theorem dX9_takesCommand_5 : decode cX9_takesCommand 5 = .ok (.ifCond .ne 5, 3) := by decide +kernel
theorem dX9_takesCommand_8 : decode cX9_takesCommand 8 = .ok (.iconst 0, 1) := by decide +kernel
theorem dX9_takesCommand_9 : decode cX9_takesCommand 9 = .ok (.ireturn, 1) := by decide +kernel
theorem dX9_takesCommand_10 : decode cX9_takesCommand 10 = .ok (.aload_n 0, 1) := by decide +kernel
theorem dX9_takesCommand_11 : decode cX9_takesCommand 11 = .ok (.bipush 33, 2) := by decide +kernel
theorem dX9_takesCommand_13 : decode cX9_takesCommand 13 = .ok (.invokevirtual 242, 3) := by decide +kernel
theorem dX9_takesCommand_16 : decode cX9_takesCommand 16 = .ok (.ifCond .eq 11, 3) := by decide +kernel
theorem dX9_takesCommand_19 : decode cX9_takesCommand 19 = .ok (.aload_n 0, 1) := by decide +kernel
theorem dX9_takesCommand_20 : decode cX9_takesCommand 20 = .ok (.bipush 11, 2) := by decide +kernel
theorem dX9_takesCommand_22 : decode cX9_takesCommand 22 = .ok (.putfield 248, 3) := by decide +kernel
theorem dX9_takesCommand_25 : decode cX9_takesCommand 25 = .ok (.iconst 1, 1) := by decide +kernel
theorem dX9_takesCommand_26 : decode cX9_takesCommand 26 = .ok (.ireturn, 1) := by decide +kernel
theorem dX9_takesCommand_27 : decode cX9_takesCommand 27 = .ok (.aload_n 0, 1) := by decide +kernel
theorem dX9_takesCommand_28 : decode cX9_takesCommand 28 = .ok (.bipush 61, 2) := by decide +kernel
theorem dX9_takesCommand_30 : decode cX9_takesCommand 30 = .ok (.invokevirtual 242, 3) := by decide +kernel
theorem dX9_takesCommand_33 : decode cX9_takesCommand 33 = .ok (.ifCond .eq 15, 3) := by decide +kernel
theorem dX9_takesCommand_36 : decode cX9_takesCommand 36 = .ok (.aload_n 0, 1) := by decide +kernel
theorem dX9_takesCommand_37 : decode cX9_takesCommand 37 = .ok (.bipush 10, 2) := by decide +kernel
theorem dX9_takesCommand_39 : decode cX9_takesCommand 39 = .ok (.putfield 248, 3) := by decide +kernel
theorem dX9_takesCommand_42 : decode cX9_takesCommand 42 = .ok (.aload_n 0, 1) := by decide +kernel
theorem dX9_takesCommand_43 : decode cX9_takesCommand 43 = .ok (.iconst 1, 1) := by decide +kernel
theorem dX9_takesCommand_44 : decode cX9_takesCommand 44 = .ok (.invokevirtual 261, 3) := by decide +kernel
theorem dX9_takesCommand_47 : decode cX9_takesCommand 47 = .ok (.ireturn, 1) := by decide +kernel
theorem dX9_takesCommand_48 : decode cX9_takesCommand 48 = .ok (.aload_n 0, 1) := by decide +kernel
theorem dX9_takesCommand_49 : decode cX9_takesCommand 49 = .ok (.bipush 46, 2) := by decide +kernel
theorem dX9_takesCommand_51 : decode cX9_takesCommand 51 = .ok (.invokevirtual 242, 3) := by decide +kernel
theorem dX9_takesCommand_54 : decode cX9_takesCommand 54 = .ok (.ifCond .eq 14, 3) := by decide +kernel
theorem dX9_takesCommand_57 : decode cX9_takesCommand 57 = .ok (.aload_n 0, 1) := by decide +kernel
theorem dX9_takesCommand_58 : decode cX9_takesCommand 58 = .ok (.invokevirtual 264, 3) := by decide +kernel
theorem dX9_takesCommand_61 : decode cX9_takesCommand 61 = .ok (.ifCond .eq 7, 3) := by decide +kernel
theorem dX9_takesCommand_64 : decode cX9_takesCommand 64 = .ok (.iconst 1, 1) := by decide +kernel
theorem dX9_takesCommand_65 : decode cX9_takesCommand 65 = .ok (.goto 4, 3) := by decide +kernel
theorem dX9_takesCommand_68 : decode cX9_takesCommand 68 = .ok (.iconst 0, 1) := by decide +kernel
theorem dX9_takesCommand_69 : decode cX9_takesCommand 69 = .ok (.ireturn, 1) := by decide +kernel
theorem dX9_done_0 : decode cX9_done 0 = .ok (.aload_n 0, 1) := by decide +kernel
theorem dX9_done_1 : decode cX9_done 1 = .ok (.getfield 87, 3) := by decide +kernel
theorem dX9_done_4 : decode cX9_done 4 = .ok (.iconst 0, 1) := by decide +kernel
theorem dX9_done_5 : decode cX9_done 5 = .ok (.iaload, 1) := by decide +kernel
theorem dX9_done_6 : decode cX9_done 6 = .ok (.istore_n 1, 1) := by decide +kernel
theorem dX9_done_7 : decode cX9_done 7 = .ok (.aload_n 0, 1) := by decide +kernel
theorem dX9_done_8 : decode cX9_done 8 = .ok (.getfield 248, 3) := by decide +kernel
theorem dX9_done_11 : decode cX9_done 11 = .ok (.bipush 11, 2) := by decide +kernel
theorem dX9_done_13 : decode cX9_done 13 = .ok (.if_icmp .ne 11, 3) := by decide +kernel
theorem dX9_done_16 : decode cX9_done 16 = .ok (.aload_n 0, 1) := by decide +kernel
theorem dX9_done_17 : decode cX9_done 17 = .ok (.iload_n 1, 1) := by decide +kernel
theorem dX9_done_18 : decode cX9_done 18 = .ok (.invokevirtual 267, 3) := by decide +kernel
theorem dX9_done_21 : decode cX9_done 21 = .ok (.goto 53, 3) := by decide +kernel
theorem dX9_done_24 : decode cX9_done 24 = .ok (.aload_n 0, 1) := by decide +kernel
theorem dX9_done_25 : decode cX9_done 25 = .ok (.getfield 248, 3) := by decide +kernel
theorem dX9_done_28 : decode cX9_done 28 = .ok (.bipush 10, 2) := by decide +kernel
theorem dX9_done_30 : decode cX9_done 30 = .ok (.if_icmp .ne 17, 3) := by decide +kernel
theorem dX9_done_33 : decode cX9_done 33 = .ok (.aload_n 0, 1) := by decide +kernel
theorem dX9_done_34 : decode cX9_done 34 = .ok (.iload_n 1, 1) := by decide +kernel
theorem dX9_done_35 : decode cX9_done 35 = .ok (.aload_n 0, 1) := by decide +kernel
theorem dX9_done_36 : decode cX9_done 36 = .ok (.getfield 87, 3) := by decide +kernel
theorem dX9_done_39 : decode cX9_done 39 = .ok (.iconst 1, 1) := by decide +kernel
theorem dX9_done_40 : decode cX9_done 40 = .ok (.iaload, 1) := by decide +kernel
theorem dX9_done_41 : decode cX9_done 41 = .ok (.invokevirtual 270, 3) := by decide +kernel
theorem dX9_done_44 : decode cX9_done 44 = .ok (.goto 30, 3) := by decide +kernel
theorem dX9_done_47 : decode cX9_done 47 = .ok (.aload_n 0, 1) := by decide +kernel
theorem dX9_done_48 : decode cX9_done 48 = .ok (.aload_n 0, 1) := by decide +kernel
theorem dX9_done_49 : decode cX9_done 49 = .ok (.getfield 248, 3) := by decide +kernel
theorem dX9_done_52 : decode cX9_done 52 = .ok (.iload_n 1, 1) := by decide +kernel
theorem dX9_done_53 : decode cX9_done 53 = .ok (.aload_n 0, 1) := by decide +kernel
theorem dX9_done_54 : decode cX9_done 54 = .ok (.getfield 87, 3) := by decide +kernel
theorem dX9_done_57 : decode cX9_done 57 = .ok (.iconst 1, 1) := by decide +kernel
theorem dX9_done_58 : decode cX9_done 58 = .ok (.iaload, 1) := by decide +kernel
theorem dX9_done_59 : decode cX9_done 59 = .ok (.aload_n 0, 1) := by decide +kernel
theorem dX9_done_60 : decode cX9_done 60 = .ok (.getfield 87, 3) := by decide +kernel
theorem dX9_done_63 : decode cX9_done 63 = .ok (.iconst 2, 1) := by decide +kernel
theorem dX9_done_64 : decode cX9_done 64 = .ok (.iaload, 1) := by decide +kernel
theorem dX9_done_65 : decode cX9_done 65 = .ok (.aload_n 0, 1) := by decide +kernel
theorem dX9_done_66 : decode cX9_done 66 = .ok (.getfield 87, 3) := by decide +kernel
theorem dX9_done_69 : decode cX9_done 69 = .ok (.iconst 3, 1) := by decide +kernel
theorem dX9_done_70 : decode cX9_done 70 = .ok (.iaload, 1) := by decide +kernel
theorem dX9_done_71 : decode cX9_done 71 = .ok (.invokevirtual 139, 3) := by decide +kernel
theorem dX9_done_74 : decode cX9_done 74 = .ok (.ireturn, 1) := by decide +kernel
theorem dX9_parseText_0 : decode cX9_parseText 0 = .ok (.aload_n 0, 1) := by decide +kernel
theorem dX9_parseText_1 : decode cX9_parseText 1 = .ok (.aload_n 0, 1) := by decide +kernel
theorem dX9_parseText_2 : decode cX9_parseText 2 = .ok (.getfield 230, 3) := by decide +kernel
theorem dX9_parseText_5 : decode cX9_parseText 5 = .ok (.putfield 236, 3) := by decide +kernel
theorem dX9_parseText_8 : decode cX9_parseText 8 = .ok (.aload_n 0, 1) := by decide +kernel
theorem dX9_parseText_9 : decode cX9_parseText 9 = .ok (.iconst 0, 1) := by decide +kernel
theorem dX9_parseText_10 : decode cX9_parseText 10 = .ok (.putfield 230, 3) := by decide +kernel
theorem dX9_parseText_13 : decode cX9_parseText 13 = .ok (.aload_n 0, 1) := by decide +kernel
theorem dX9_parseText_14 : decode cX9_parseText 14 = .ok (.iconst 0, 1) := by decide +kernel
theorem dX9_parseText_15 : decode cX9_parseText 15 = .ok (.putfield 233, 3) := by decide +kernel
theorem dX9_parseText_18 : decode cX9_parseText 18 = .ok (.iconst 0, 1) := by decide +kernel
theorem dX9_parseText_19 : decode cX9_parseText 19 = .ok (.istore_n 1, 1) := by decide +kernel
theorem dX9_parseText_20 : decode cX9_parseText 20 = .ok (.iconst 1, 1) := by decide +kernel
theorem dX9_parseText_21 : decode cX9_parseText 21 = .ok (.istore_n 2, 1) := by decide +kernel
theorem dX9_parseText_22 : decode cX9_parseText 22 = .ok (.iload_n 2, 1) := by decide +kernel
theorem dX9_parseText_23 : decode cX9_parseText 23 = .ok (.ifCond .eq 32, 3) := by decide +kernel
theorem dX9_parseText_26 : decode cX9_parseText 26 = .ok (.aload_n 0, 1) := by decide +kernel
theorem dX9_parseText_27 : decode cX9_parseText 27 = .ok (.invokevirtual 273, 3) := by decide +kernel
theorem dX9_parseText_30 : decode cX9_parseText 30 = .ok (.ifCond .ne 12, 3) := by decide +kernel
theorem dX9_parseText_33 : decode cX9_parseText 33 = .ok (.sipush (-1000), 3) := by decide +kernel
theorem dX9_parseText_36 : decode cX9_parseText 36 = .ok (.aload_n 0, 1) := by decide +kernel
theorem dX9_parseText_37 : decode cX9_parseText 37 = .ok (.getfield 233, 3) := by decide +kernel
theorem dX9_parseText_40 : decode cX9_parseText 40 = .ok (.isub, 1) := by decide +kernel
theorem dX9_parseText_41 : decode cX9_parseText 41 = .ok (.ireturn, 1) := by decide +kernel
theorem dX9_parseText_42 : decode cX9_parseText 42 = .ok (.iinc 1 1, 3) := by decide +kernel
theorem dX9_parseText_45 : decode cX9_parseText 45 = .ok (.aload_n 0, 1) := by decide +kernel
theorem dX9_parseText_46 : decode cX9_parseText 46 = .ok (.bipush 59, 2) := by decide +kernel
theorem dX9_parseText_48 : decode cX9_parseText 48 = .ok (.invokevirtual 242, 3) := by decide +kernel
theorem dX9_parseText_51 : decode cX9_parseText 51 = .ok (.istore_n 2, 1) := by decide +kernel
theorem dX9_parseText_52 : decode cX9_parseText 52 = .ok (.goto (-30), 3) := by decide +kernel
theorem dX9_parseText_55 : decode cX9_parseText 55 = .ok (.aload_n 0, 1) := by decide +kernel
theorem dX9_parseText_56 : decode cX9_parseText 56 = .ok (.getfield 233, 3) := by decide +kernel
theorem dX9_parseText_59 : decode cX9_parseText 59 = .ok (.aload_n 0, 1) := by decide +kernel
theorem dX9_parseText_60 : decode cX9_parseText 60 = .ok (.getfield 236, 3) := by decide +kernel
theorem dX9_parseText_63 : decode cX9_parseText 63 = .ok (.if_icmp .ge 12, 3) := by decide +kernel
theorem dX9_parseText_66 : decode cX9_parseText 66 = .ok (.sipush (-1000), 3) := by decide +kernel
theorem dX9_parseText_69 : decode cX9_parseText 69 = .ok (.aload_n 0, 1) := by decide +kernel
theorem dX9_parseText_70 : decode cX9_parseText 70 = .ok (.getfield 233, 3) := by decide +kernel
theorem dX9_parseText_73 : decode cX9_parseText 73 = .ok (.isub, 1) := by decide +kernel
theorem dX9_parseText_74 : decode cX9_parseText 74 = .ok (.ireturn, 1) := by decide +kernel
theorem dX9_parseText_75 : decode cX9_parseText 75 = .ok (.aload_n 0, 1) := by decide +kernel
theorem dX9_parseText_76 : decode cX9_parseText 76 = .ok (.iconst 0, 1) := by decide +kernel
theorem dX9_parseText_77 : decode cX9_parseText 77 = .ok (.putfield 233, 3) := by decide +kernel
theorem dX9_parseText_80 : decode cX9_parseText 80 = .ok (.iconst 0, 1) := by decide +kernel
theorem dX9_parseText_81 : decode cX9_parseText 81 = .ok (.istore_n 3, 1) := by decide +kernel
theorem dX9_parseText_82 : decode cX9_parseText 82 = .ok (.iload_n 3, 1) := by decide +kernel
theorem dX9_parseText_83 : decode cX9_parseText 83 = .ok (.iload_n 1, 1) := by decide +kernel
theorem dX9_parseText_84 : decode cX9_parseText 84 = .ok (.if_icmp .ge 34, 3) := by decide +kernel
theorem dX9_parseText_87 : decode cX9_parseText 87 = .ok (.aload_n 0, 1) := by decide +kernel
theorem dX9_parseText_88 : decode cX9_parseText 88 = .ok (.invokevirtual 273, 3) := by decide +kernel
theorem dX9_parseText_91 : decode cX9_parseText 91 = .ok (.pop, 1) := by decide +kernel
theorem dX9_parseText_92 : decode cX9_parseText 92 = .ok (.aload_n 0, 1) := by decide +kernel
theorem dX9_parseText_93 : decode cX9_parseText 93 = .ok (.bipush 59, 2) := by decide +kernel
theorem dX9_parseText_95 : decode cX9_parseText 95 = .ok (.invokevirtual 242, 3) := by decide +kernel
theorem dX9_parseText_98 : decode cX9_parseText 98 = .ok (.pop, 1) := by decide +kernel
theorem dX9_parseText_99 : decode cX9_parseText 99 = .ok (.aload_n 0, 1) := by decide +kernel
theorem dX9_parseText_100 : decode cX9_parseText 100 = .ok (.invokevirtual 276, 3) := by decide +kernel
theorem dX9_parseText_103 : decode cX9_parseText 103 = .ok (.ifCond .ge 9, 3) := by decide +kernel
theorem dX9_parseText_106 : decode cX9_parseText 106 = .ok (.sipush (-2000), 3) := by decide +kernel
theorem dX9_parseText_109 : decode cX9_parseText 109 = .ok (.iload_n 3, 1) := by decide +kernel
theorem dX9_parseText_110 : decode cX9_parseText 110 = .ok (.isub, 1) := by decide +kernel
theorem dX9_parseText_111 : decode cX9_parseText 111 = .ok (.ireturn, 1) := by decide +kernel
theorem dX9_parseText_112 : decode cX9_parseText 112 = .ok (.iinc 3 1, 3) := by decide +kernel
theorem dX9_parseText_115 : decode cX9_parseText 115 = .ok (.goto (-33), 3) := by decide +kernel
theorem dX9_parseText_118 : decode cX9_parseText 118 = .ok (.iload_n 1, 1) := by decide +kernel
theorem dX9_parseText_119 : decode cX9_parseText 119 = .ok (.ireturn, 1) := by decide +kernel
theorem dX9_copy_0 : decode cX9_copy 0 = .ok (.iconst 0, 1) := by decide +kernel
theorem dX9_copy_1 : decode cX9_copy 1 = .ok (.istore_n 3, 1) := by decide +kernel
theorem dX9_copy_2 : decode cX9_copy 2 = .ok (.iload_n 3, 1) := by decide +kernel
theorem dX9_copy_3 : decode cX9_copy 3 = .ok (.aload_n 1, 1) := by decide +kernel
theorem dX9_copy_4 : decode cX9_copy 4 = .ok (.arraylength, 1) := by decide +kernel
theorem dX9_copy_5 : decode cX9_copy 5 = .ok (.if_icmp .ge 50, 3) := by decide +kernel
theorem dX9_copy_8 : decode cX9_copy 8 = .ok (.iload_n 2, 1) := by decide +kernel
theorem dX9_copy_9 : decode cX9_copy 9 = .ok (.ifCond .eq 18, 3) := by decide +kernel
theorem dX9_copy_12 : decode cX9_copy 12 = .ok (.aload_n 1, 1) := by decide +kernel
theorem dX9_copy_13 : decode cX9_copy 13 = .ok (.iload_n 3, 1) := by decide +kernel
theorem dX9_copy_14 : decode cX9_copy 14 = .ok (.aload_n 0, 1) := by decide +kernel
theorem dX9_copy_15 : decode cX9_copy 15 = .ok (.getfield 90, 3) := by decide +kernel
theorem dX9_copy_18 : decode cX9_copy 18 = .ok (.aload_n 0, 1) := by decide +kernel
theorem dX9_copy_19 : decode cX9_copy 19 = .ok (.getfield 279, 3) := by decide +kernel
theorem dX9_copy_22 : decode cX9_copy 22 = .ok (.iaload, 1) := by decide +kernel
theorem dX9_copy_23 : decode cX9_copy 23 = .ok (.iastore, 1) := by decide +kernel
theorem dX9_copy_24 : decode cX9_copy 24 = .ok (.goto 15, 3) := by decide +kernel
theorem dX9_copy_27 : decode cX9_copy 27 = .ok (.aload_n 0, 1) := by decide +kernel
theorem dX9_copy_28 : decode cX9_copy 28 = .ok (.getfield 90, 3) := by decide +kernel
theorem dX9_copy_31 : decode cX9_copy 31 = .ok (.aload_n 0, 1) := by decide +kernel
theorem dX9_copy_32 : decode cX9_copy 32 = .ok (.getfield 279, 3) := by decide +kernel
theorem dX9_copy_35 : decode cX9_copy 35 = .ok (.aload_n 1, 1) := by decide +kernel
theorem dX9_copy_36 : decode cX9_copy 36 = .ok (.iload_n 3, 1) := by decide +kernel
theorem dX9_copy_37 : decode cX9_copy 37 = .ok (.iaload, 1) := by decide +kernel
theorem dX9_copy_38 : decode cX9_copy 38 = .ok (.iastore, 1) := by decide +kernel
theorem dX9_copy_39 : decode cX9_copy 39 = .ok (.aload_n 0, 1) := by decide +kernel
theorem dX9_copy_40 : decode cX9_copy 40 = .ok (.dup, 1) := by decide +kernel
theorem dX9_copy_41 : decode cX9_copy 41 = .ok (.getfield 279, 3) := by decide +kernel
theorem dX9_copy_44 : decode cX9_copy 44 = .ok (.iconst 1, 1) := by decide +kernel
theorem dX9_copy_45 : decode cX9_copy 45 = .ok (.iadd, 1) := by decide +kernel
theorem dX9_copy_46 : decode cX9_copy 46 = .ok (.putfield 279, 3) := by decide +kernel
theorem dX9_copy_49 : decode cX9_copy 49 = .ok (.iinc 3 1, 3) := by decide +kernel
theorem dX9_copy_52 : decode cX9_copy 52 = .ok (.goto (-50), 3) := by decide +kernel
theorem dX9_copy_55 : decode cX9_copy 55 = .ok (.return_, 1) := by decide +kernel
theorem dX9_copyAll_0 : decode cX9_copyAll 0 = .ok (.aload_n 0, 1) := by decide +kernel
theorem dX9_copyAll_1 : decode cX9_copyAll 1 = .ok (.iconst 4, 1) := by decide +kernel
theorem dX9_copyAll_2 : decode cX9_copyAll 2 = .ok (.putfield 279, 3) := by decide +kernel
theorem dX9_copyAll_5 : decode cX9_copyAll 5 = .ok (.aload_n 0, 1) := by decide +kernel
theorem dX9_copyAll_6 : decode cX9_copyAll 6 = .ok (.aload_n 0, 1) := by decide +kernel
theorem dX9_copyAll_7 : decode cX9_copyAll 7 = .ok (.getfield 9, 3) := by decide +kernel
theorem dX9_copyAll_10 : decode cX9_copyAll 10 = .ok (.iload_n 1, 1) := by decide +kernel
theorem dX9_copyAll_11 : decode cX9_copyAll 11 = .ok (.invokevirtual 282, 3) := by decide +kernel
theorem dX9_copyAll_14 : decode cX9_copyAll 14 = .ok (.aload_n 0, 1) := by decide +kernel
theorem dX9_copyAll_15 : decode cX9_copyAll 15 = .ok (.aload_n 0, 1) := by decide +kernel
theorem dX9_copyAll_16 : decode cX9_copyAll 16 = .ok (.getfield 13, 3) := by decide +kernel
theorem dX9_copyAll_19 : decode cX9_copyAll 19 = .ok (.iload_n 1, 1) := by decide +kernel
theorem dX9_copyAll_20 : decode cX9_copyAll 20 = .ok (.invokevirtual 282, 3) := by decide +kernel
theorem dX9_copyAll_23 : decode cX9_copyAll 23 = .ok (.aload_n 0, 1) := by decide +kernel
theorem dX9_copyAll_24 : decode cX9_copyAll 24 = .ok (.aload_n 0, 1) := by decide +kernel
theorem dX9_copyAll_25 : decode cX9_copyAll 25 = .ok (.getfield 16, 3) := by decide +kernel
theorem dX9_copyAll_28 : decode cX9_copyAll 28 = .ok (.iload_n 1, 1) := by decide +kernel
theorem dX9_copyAll_29 : decode cX9_copyAll 29 = .ok (.invokevirtual 282, 3) := by decide +kernel
theorem dX9_copyAll_32 : decode cX9_copyAll 32 = .ok (.aload_n 0, 1) := by decide +kernel
theorem dX9_copyAll_33 : decode cX9_copyAll 33 = .ok (.aload_n 0, 1) := by decide +kernel
theorem dX9_copyAll_34 : decode cX9_copyAll 34 = .ok (.getfield 19, 3) := by decide +kernel
theorem dX9_copyAll_37 : decode cX9_copyAll 37 = .ok (.iload_n 1, 1) := by decide +kernel
theorem dX9_copyAll_38 : decode cX9_copyAll 38 = .ok (.invokevirtual 282, 3) := by decide +kernel
theorem dX9_copyAll_41 : decode cX9_copyAll 41 = .ok (.aload_n 0, 1) := by decide +kernel
theorem dX9_copyAll_42 : decode cX9_copyAll 42 = .ok (.aload_n 0, 1) := by decide +kernel
theorem dX9_copyAll_43 : decode cX9_copyAll 43 = .ok (.getfield 22, 3) := by decide +kernel
theorem dX9_copyAll_46 : decode cX9_copyAll 46 = .ok (.iload_n 1, 1) := by decide +kernel
theorem dX9_copyAll_47 : decode cX9_copyAll 47 = .ok (.invokevirtual 282, 3) := by decide +kernel
theorem dX9_copyAll_50 : decode cX9_copyAll 50 = .ok (.aload_n 0, 1) := by decide +kernel
theorem dX9_copyAll_51 : decode cX9_copyAll 51 = .ok (.aload_n 0, 1) := by decide +kernel
theorem dX9_copyAll_52 : decode cX9_copyAll 52 = .ok (.getfield 25, 3) := by decide +kernel
theorem dX9_copyAll_55 : decode cX9_copyAll 55 = .ok (.iload_n 1, 1) := by decide +kernel
theorem dX9_copyAll_56 : decode cX9_copyAll 56 = .ok (.invokevirtual 282, 3) := by decide +kernel
theorem dX9_copyAll_59 : decode cX9_copyAll 59 = .ok (.aload_n 0, 1) := by decide +kernel
theorem dX9_copyAll_60 : decode cX9_copyAll 60 = .ok (.aload_n 0, 1) := by decide +kernel
theorem dX9_copyAll_61 : decode cX9_copyAll 61 = .ok (.getfield 28, 3) := by decide +kernel
theorem dX9_copyAll_64 : decode cX9_copyAll 64 = .ok (.iload_n 1, 1) := by decide +kernel
theorem dX9_copyAll_65 : decode cX9_copyAll 65 = .ok (.invokevirtual 282, 3) := by decide +kernel
theorem dX9_copyAll_68 : decode cX9_copyAll 68 = .ok (.aload_n 0, 1) := by decide +kernel
theorem dX9_copyAll_69 : decode cX9_copyAll 69 = .ok (.aload_n 0, 1) := by decide +kernel
theorem dX9_copyAll_70 : decode cX9_copyAll 70 = .ok (.getfield 31, 3) := by decide +kernel
theorem dX9_copyAll_73 : decode cX9_copyAll 73 = .ok (.iload_n 1, 1) := by decide +kernel
theorem dX9_copyAll_74 : decode cX9_copyAll 74 = .ok (.invokevirtual 282, 3) := by decide +kernel
theorem dX9_copyAll_77 : decode cX9_copyAll 77 = .ok (.aload_n 0, 1) := by decide +kernel
theorem dX9_copyAll_78 : decode cX9_copyAll 78 = .ok (.aload_n 0, 1) := by decide +kernel
theorem dX9_copyAll_79 : decode cX9_copyAll 79 = .ok (.getfield 34, 3) := by decide +kernel
theorem dX9_copyAll_82 : decode cX9_copyAll 82 = .ok (.iload_n 1, 1) := by decide +kernel
theorem dX9_copyAll_83 : decode cX9_copyAll 83 = .ok (.invokevirtual 282, 3) := by decide +kernel
theorem dX9_copyAll_86 : decode cX9_copyAll 86 = .ok (.aload_n 0, 1) := by decide +kernel
theorem dX9_copyAll_87 : decode cX9_copyAll 87 = .ok (.aload_n 0, 1) := by decide +kernel
theorem dX9_copyAll_88 : decode cX9_copyAll 88 = .ok (.getfield 37, 3) := by decide +kernel
theorem dX9_copyAll_91 : decode cX9_copyAll 91 = .ok (.iload_n 1, 1) := by decide +kernel
theorem dX9_copyAll_92 : decode cX9_copyAll 92 = .ok (.invokevirtual 282, 3) := by decide +kernel
theorem dX9_copyAll_95 : decode cX9_copyAll 95 = .ok (.aload_n 0, 1) := by decide +kernel
theorem dX9_copyAll_96 : decode cX9_copyAll 96 = .ok (.aload_n 0, 1) := by decide +kernel
theorem dX9_copyAll_97 : decode cX9_copyAll 97 = .ok (.getfield 40, 3) := by decide +kernel
theorem dX9_copyAll_100 : decode cX9_copyAll 100 = .ok (.iload_n 1, 1) := by decide +kernel
theorem dX9_copyAll_101 : decode cX9_copyAll 101 = .ok (.invokevirtual 282, 3) := by decide +kernel
theorem dX9_copyAll_104 : decode cX9_copyAll 104 = .ok (.aload_n 0, 1) := by decide +kernel
theorem dX9_copyAll_105 : decode cX9_copyAll 105 = .ok (.aload_n 0, 1) := by decide +kernel
theorem dX9_copyAll_106 : decode cX9_copyAll 106 = .ok (.getfield 43, 3) := by decide +kernel
theorem dX9_copyAll_109 : decode cX9_copyAll 109 = .ok (.iload_n 1, 1) := by decide +kernel
theorem dX9_copyAll_110 : decode cX9_copyAll 110 = .ok (.invokevirtual 282, 3) := by decide +kernel
theorem dX9_copyAll_113 : decode cX9_copyAll 113 = .ok (.aload_n 0, 1) := by decide +kernel
theorem dX9_copyAll_114 : decode cX9_copyAll 114 = .ok (.aload_n 0, 1) := by decide +kernel
theorem dX9_copyAll_115 : decode cX9_copyAll 115 = .ok (.getfield 46, 3) := by decide +kernel
theorem dX9_copyAll_118 : decode cX9_copyAll 118 = .ok (.iload_n 1, 1) := by decide +kernel
theorem dX9_copyAll_119 : decode cX9_copyAll 119 = .ok (.invokevirtual 282, 3) := by decide +kernel
theorem dX9_copyAll_122 : decode cX9_copyAll 122 = .ok (.aload_n 0, 1) := by decide +kernel
theorem dX9_copyAll_123 : decode cX9_copyAll 123 = .ok (.aload_n 0, 1) := by decide +kernel
theorem dX9_copyAll_124 : decode cX9_copyAll 124 = .ok (.getfield 49, 3) := by decide +kernel
theorem dX9_copyAll_127 : decode cX9_copyAll 127 = .ok (.iload_n 1, 1) := by decide +kernel
theorem dX9_copyAll_128 : decode cX9_copyAll 128 = .ok (.invokevirtual 282, 3) := by decide +kernel
theorem dX9_copyAll_131 : decode cX9_copyAll 131 = .ok (.return_, 1) := by decide +kernel
theorem dX9_saveSnapshot_0 : decode cX9_saveSnapshot 0 = .ok (.aload_n 0, 1) := by decide +kernel
theorem dX9_saveSnapshot_1 : decode cX9_saveSnapshot 1 = .ok (.iconst 1, 1) := by decide +kernel
theorem dX9_saveSnapshot_2 : decode cX9_saveSnapshot 2 = .ok (.putfield 286, 3) := by decide +kernel
theorem dX9_saveSnapshot_5 : decode cX9_saveSnapshot 5 = .ok (.aload_n 0, 1) := by decide +kernel
theorem dX9_saveSnapshot_6 : decode cX9_saveSnapshot 6 = .ok (.getfield 90, 3) := by decide +kernel
theorem dX9_saveSnapshot_9 : decode cX9_saveSnapshot 9 = .ok (.iconst 0, 1) := by decide +kernel
theorem dX9_saveSnapshot_10 : decode cX9_saveSnapshot 10 = .ok (.aload_n 0, 1) := by decide +kernel
theorem dX9_saveSnapshot_11 : decode cX9_saveSnapshot 11 = .ok (.getfield 97, 3) := by decide +kernel
theorem dX9_saveSnapshot_14 : decode cX9_saveSnapshot 14 = .ok (.iastore, 1) := by decide +kernel
theorem dX9_saveSnapshot_15 : decode cX9_saveSnapshot 15 = .ok (.aload_n 0, 1) := by decide +kernel
theorem dX9_saveSnapshot_16 : decode cX9_saveSnapshot 16 = .ok (.getfield 90, 3) := by decide +kernel
theorem dX9_saveSnapshot_19 : decode cX9_saveSnapshot 19 = .ok (.iconst 1, 1) := by decide +kernel
theorem dX9_saveSnapshot_20 : decode cX9_saveSnapshot 20 = .ok (.aload_n 0, 1) := by decide +kernel
theorem dX9_saveSnapshot_21 : decode cX9_saveSnapshot 21 = .ok (.getfield 101, 3) := by decide +kernel
theorem dX9_saveSnapshot_24 : decode cX9_saveSnapshot 24 = .ok (.iastore, 1) := by decide +kernel
theorem dX9_saveSnapshot_25 : decode cX9_saveSnapshot 25 = .ok (.aload_n 0, 1) := by decide +kernel
theorem dX9_saveSnapshot_26 : decode cX9_saveSnapshot 26 = .ok (.getfield 90, 3) := by decide +kernel
theorem dX9_saveSnapshot_29 : decode cX9_saveSnapshot 29 = .ok (.iconst 2, 1) := by decide +kernel
theorem dX9_saveSnapshot_30 : decode cX9_saveSnapshot 30 = .ok (.aload_n 0, 1) := by decide +kernel
theorem dX9_saveSnapshot_31 : decode cX9_saveSnapshot 31 = .ok (.getfield 104, 3) := by decide +kernel
theorem dX9_saveSnapshot_34 : decode cX9_saveSnapshot 34 = .ok (.iastore, 1) := by decide +kernel
theorem dX9_saveSnapshot_35 : decode cX9_saveSnapshot 35 = .ok (.aload_n 0, 1) := by decide +kernel
theorem dX9_saveSnapshot_36 : decode cX9_saveSnapshot 36 = .ok (.getfield 90, 3) := by decide +kernel
theorem dX9_saveSnapshot_39 : decode cX9_saveSnapshot 39 = .ok (.iconst 3, 1) := by decide +kernel
theorem dX9_saveSnapshot_40 : decode cX9_saveSnapshot 40 = .ok (.aload_n 0, 1) := by decide +kernel
theorem dX9_saveSnapshot_41 : decode cX9_saveSnapshot 41 = .ok (.getfield 107, 3) := by decide +kernel
theorem dX9_saveSnapshot_44 : decode cX9_saveSnapshot 44 = .ok (.iastore, 1) := by decide +kernel
theorem dX9_saveSnapshot_45 : decode cX9_saveSnapshot 45 = .ok (.aload_n 0, 1) := by decide +kernel
theorem dX9_saveSnapshot_46 : decode cX9_saveSnapshot 46 = .ok (.iconst 0, 1) := by decide +kernel
theorem dX9_saveSnapshot_47 : decode cX9_saveSnapshot 47 = .ok (.invokevirtual 289, 3) := by decide +kernel
theorem dX9_saveSnapshot_50 : decode cX9_saveSnapshot 50 = .ok (.aload_n 0, 1) := by decide +kernel
theorem dX9_saveSnapshot_51 : decode cX9_saveSnapshot 51 = .ok (.getfield 104, 3) := by decide +kernel
theorem dX9_saveSnapshot_54 : decode cX9_saveSnapshot 54 = .ok (.ireturn, 1) := by decide +kernel
theorem dX9_restoreSnapshot_0 : decode cX9_restoreSnapshot 0 = .ok (.aload_n 0, 1) := by decide +kernel
theorem dX9_restoreSnapshot_1 : decode cX9_restoreSnapshot 1 = .ok (.getfield 286, 3) := by decide +kernel
theorem dX9_restoreSnapshot_4 : decode cX9_restoreSnapshot 4 = .ok (.ifCond .ne 6, 3) := by decide +kernel
theorem dX9_restoreSnapshot_7 : decode cX9_restoreSnapshot 7 = .ok (.bipush (-13), 2) := by decide +kernel
theorem dX9_restoreSnapshot_9 : decode cX9_restoreSnapshot 9 = .ok (.ireturn, 1) := by decide +kernel
theorem dX9_restoreSnapshot_10 : decode cX9_restoreSnapshot 10 = .ok (.aload_n 0, 1) := by decide +kernel
theorem dX9_restoreSnapshot_11 : decode cX9_restoreSnapshot 11 = .ok (.aload_n 0, 1) := by decide +kernel
theorem dX9_restoreSnapshot_12 : decode cX9_restoreSnapshot 12 = .ok (.getfield 90, 3) := by decide +kernel
theorem dX9_restoreSnapshot_15 : decode cX9_restoreSnapshot 15 = .ok (.iconst 0, 1) := by decide +kernel
theorem dX9_restoreSnapshot_16 : decode cX9_restoreSnapshot 16 = .ok (.iaload, 1) := by decide +kernel
theorem dX9_restoreSnapshot_17 : decode cX9_restoreSnapshot 17 = .ok (.putfield 97, 3) := by decide +kernel
theorem dX9_restoreSnapshot_20 : decode cX9_restoreSnapshot 20 = .ok (.aload_n 0, 1) := by decide +kernel
theorem dX9_restoreSnapshot_21 : decode cX9_restoreSnapshot 21 = .ok (.aload_n 0, 1) := by decide +kernel
theorem dX9_restoreSnapshot_22 : decode cX9_restoreSnapshot 22 = .ok (.getfield 90, 3) := by decide +kernel
theorem dX9_restoreSnapshot_25 : decode cX9_restoreSnapshot 25 = .ok (.iconst 1, 1) := by decide +kernel
theorem dX9_restoreSnapshot_26 : decode cX9_restoreSnapshot 26 = .ok (.iaload, 1) := by decide +kernel
theorem dX9_restoreSnapshot_27 : decode cX9_restoreSnapshot 27 = .ok (.putfield 101, 3) := by decide +kernel
theorem dX9_restoreSnapshot_30 : decode cX9_restoreSnapshot 30 = .ok (.aload_n 0, 1) := by decide +kernel
theorem dX9_restoreSnapshot_31 : decode cX9_restoreSnapshot 31 = .ok (.aload_n 0, 1) := by decide +kernel
theorem dX9_restoreSnapshot_32 : decode cX9_restoreSnapshot 32 = .ok (.getfield 90, 3) := by decide +kernel
theorem dX9_restoreSnapshot_35 : decode cX9_restoreSnapshot 35 = .ok (.iconst 2, 1) := by decide +kernel
theorem dX9_restoreSnapshot_36 : decode cX9_restoreSnapshot 36 = .ok (.iaload, 1) := by decide +kernel
theorem dX9_restoreSnapshot_37 : decode cX9_restoreSnapshot 37 = .ok (.putfield 104, 3) := by decide +kernel
theorem dX9_restoreSnapshot_40 : decode cX9_restoreSnapshot 40 = .ok (.aload_n 0, 1) := by decide +kernel
theorem dX9_restoreSnapshot_41 : decode cX9_restoreSnapshot 41 = .ok (.aload_n 0, 1) := by decide +kernel
theorem dX9_restoreSnapshot_42 : decode cX9_restoreSnapshot 42 = .ok (.getfield 90, 3) := by decide +kernel
theorem dX9_restoreSnapshot_45 : decode cX9_restoreSnapshot 45 = .ok (.iconst 3, 1) := by decide +kernel
theorem dX9_restoreSnapshot_46 : decode cX9_restoreSnapshot 46 = .ok (.iaload, 1) := by decide +kernel
theorem dX9_restoreSnapshot_47 : decode cX9_restoreSnapshot 47 = .ok (.putfield 107, 3) := by decide +kernel
theorem dX9_restoreSnapshot_50 : decode cX9_restoreSnapshot 50 = .ok (.aload_n 0, 1) := by decide +kernel
theorem dX9_restoreSnapshot_51 : decode cX9_restoreSnapshot 51 = .ok (.iconst 1, 1) := by decide +kernel
theorem dX9_restoreSnapshot_52 : decode cX9_restoreSnapshot 52 = .ok (.invokevirtual 289, 3) := by decide +kernel
theorem dX9_restoreSnapshot_55 : decode cX9_restoreSnapshot 55 = .ok (.aload_n 0, 1) := by decide +kernel
theorem dX9_restoreSnapshot_56 : decode cX9_restoreSnapshot 56 = .ok (.getfield 104, 3) := by decide +kernel
theorem dX9_restoreSnapshot_59 : decode cX9_restoreSnapshot 59 = .ok (.ireturn, 1) := by decide +kernel
theorem dL_law_0 : decode cL_law 0 = .ok (.new 7, 3) := by decide +kernel
theorem dL_law_3 : decode cL_law 3 = .ok (.dup, 1) := by decide +kernel
theorem dL_law_4 : decode cL_law 4 = .ok (.invokespecial 9, 3) := by decide +kernel
theorem dL_law_7 : decode cL_law 7 = .ok (.astore_n 1, 1) := by decide +kernel
theorem dL_law_8 : decode cL_law 8 = .ok (.new 10, 3) := by decide +kernel
theorem dL_law_11 : decode cL_law 11 = .ok (.dup, 1) := by decide +kernel
theorem dL_law_12 : decode cL_law 12 = .ok (.invokespecial 12, 3) := by decide +kernel
theorem dL_law_15 : decode cL_law 15 = .ok (.astore_n 2, 1) := by decide +kernel
theorem dL_law_16 : decode cL_law 16 = .ok (.iconst 0, 1) := by decide +kernel
theorem dL_law_17 : decode cL_law 17 = .ok (.istore_n 3, 1) := by decide +kernel
theorem dL_law_18 : decode cL_law 18 = .ok (.iload_n 3, 1) := by decide +kernel
theorem dL_law_19 : decode cL_law 19 = .ok (.aload_n 0, 1) := by decide +kernel
theorem dL_law_20 : decode cL_law 20 = .ok (.arraylength, 1) := by decide +kernel
theorem dL_law_21 : decode cL_law 21 = .ok (.iconst 5, 1) := by decide +kernel
theorem dL_law_22 : decode cL_law 22 = .ok (.isub, 1) := by decide +kernel
theorem dL_law_23 : decode cL_law 23 = .ok (.if_icmp .gt 1408, 3) := by decide +kernel
theorem dL_law_26 : decode cL_law 26 = .ok (.aload_n 0, 1) := by decide +kernel
theorem dL_law_27 : decode cL_law 27 = .ok (.iload_n 3, 1) := by decide +kernel
theorem dL_law_28 : decode cL_law 28 = .ok (.iaload, 1) := by decide +kernel
theorem dL_law_29 : decode cL_law 29 = .ok (.bipush 63, 2) := by decide +kernel
theorem dL_law_31 : decode cL_law 31 = .ok (.iand, 1) := by decide +kernel
theorem dL_law_32 : decode cL_law 32 = .ok (.tableswitch 1393 0 50 #[220, 243, 266, 279, 292, 305, 328, 341, 374, 417, 470, 503, 546, 589, 622, 665, 708, 751, 784, 807, 820, 833, 846, 869, 892, 915, 938, 961, 984, 1017, 1030, 1043, 1056, 1079, 1092, 1105, 1118, 1141, 1154, 1187, 1210, 1233, 1256, 1269, 1292, 1305, 1318, 1341, 1354, 1367, 1380], 220) := by decide +kernel
theorem dL_law_252 : decode cL_law 252 = .ok (.aload_n 1, 1) := by decide +kernel
theorem dL_law_253 : decode cL_law 253 = .ok (.aload_n 0, 1) := by decide +kernel
theorem dL_law_254 : decode cL_law 254 = .ok (.iload_n 3, 1) := by decide +kernel
theorem dL_law_255 : decode cL_law 255 = .ok (.iconst 1, 1) := by decide +kernel
theorem dL_law_256 : decode cL_law 256 = .ok (.iadd, 1) := by decide +kernel
theorem dL_law_257 : decode cL_law 257 = .ok (.iaload, 1) := by decide +kernel
theorem dL_law_258 : decode cL_law 258 = .ok (.invokevirtual 13, 3) := by decide +kernel
theorem dL_law_261 : decode cL_law 261 = .ok (.aload_n 2, 1) := by decide +kernel
theorem dL_law_262 : decode cL_law 262 = .ok (.aload_n 0, 1) := by decide +kernel
theorem dL_law_263 : decode cL_law 263 = .ok (.iload_n 3, 1) := by decide +kernel
theorem dL_law_264 : decode cL_law 264 = .ok (.iconst 1, 1) := by decide +kernel
theorem dL_law_265 : decode cL_law 265 = .ok (.iadd, 1) := by decide +kernel
theorem dL_law_266 : decode cL_law 266 = .ok (.iaload, 1) := by decide +kernel
theorem dL_law_267 : decode cL_law 267 = .ok (.invokevirtual 17, 3) := by decide +kernel
theorem dL_law_270 : decode cL_law 270 = .ok (.if_icmp .eq 1155, 3) := by decide +kernel
theorem dL_law_273 : decode cL_law 273 = .ok (.iconst 0, 1) := by decide +kernel
theorem dL_law_274 : decode cL_law 274 = .ok (.ireturn, 1) := by decide +kernel
theorem dL_law_275 : decode cL_law 275 = .ok (.aload_n 1, 1) := by decide +kernel
theorem dL_law_276 : decode cL_law 276 = .ok (.aload_n 0, 1) := by decide +kernel
theorem dL_law_277 : decode cL_law 277 = .ok (.iload_n 3, 1) := by decide +kernel
theorem dL_law_278 : decode cL_law 278 = .ok (.iconst 1, 1) := by decide +kernel
theorem dL_law_279 : decode cL_law 279 = .ok (.iadd, 1) := by decide +kernel
theorem dL_law_280 : decode cL_law 280 = .ok (.iaload, 1) := by decide +kernel
theorem dL_law_281 : decode cL_law 281 = .ok (.invokevirtual 18, 3) := by decide +kernel
theorem dL_law_284 : decode cL_law 284 = .ok (.aload_n 2, 1) := by decide +kernel
theorem dL_law_285 : decode cL_law 285 = .ok (.aload_n 0, 1) := by decide +kernel
theorem dL_law_286 : decode cL_law 286 = .ok (.iload_n 3, 1) := by decide +kernel
theorem dL_law_287 : decode cL_law 287 = .ok (.iconst 1, 1) := by decide +kernel
theorem dL_law_288 : decode cL_law 288 = .ok (.iadd, 1) := by decide +kernel
theorem dL_law_289 : decode cL_law 289 = .ok (.iaload, 1) := by decide +kernel
theorem dL_law_290 : decode cL_law 290 = .ok (.invokevirtual 21, 3) := by decide +kernel
theorem dL_law_293 : decode cL_law 293 = .ok (.if_icmp .eq 1132, 3) := by decide +kernel
theorem dL_law_296 : decode cL_law 296 = .ok (.iconst 0, 1) := by decide +kernel
theorem dL_law_297 : decode cL_law 297 = .ok (.ireturn, 1) := by decide +kernel
theorem dL_law_298 : decode cL_law 298 = .ok (.aload_n 1, 1) := by decide +kernel
theorem dL_law_299 : decode cL_law 299 = .ok (.invokevirtual 22, 3) := by decide +kernel
theorem dL_law_302 : decode cL_law 302 = .ok (.aload_n 2, 1) := by decide +kernel
theorem dL_law_303 : decode cL_law 303 = .ok (.invokevirtual 26, 3) := by decide +kernel
theorem dL_law_306 : decode cL_law 306 = .ok (.if_icmp .eq 1119, 3) := by decide +kernel
theorem dL_law_309 : decode cL_law 309 = .ok (.iconst 0, 1) := by decide +kernel
theorem dL_law_310 : decode cL_law 310 = .ok (.ireturn, 1) := by decide +kernel
theorem dL_law_311 : decode cL_law 311 = .ok (.aload_n 1, 1) := by decide +kernel
theorem dL_law_312 : decode cL_law 312 = .ok (.invokevirtual 27, 3) := by decide +kernel
theorem dL_law_315 : decode cL_law 315 = .ok (.aload_n 2, 1) := by decide +kernel
theorem dL_law_316 : decode cL_law 316 = .ok (.invokevirtual 30, 3) := by decide +kernel
theorem dL_law_319 : decode cL_law 319 = .ok (.if_icmp .eq 1106, 3) := by decide +kernel
theorem dL_law_322 : decode cL_law 322 = .ok (.iconst 0, 1) := by decide +kernel
theorem dL_law_323 : decode cL_law 323 = .ok (.ireturn, 1) := by decide +kernel
theorem dL_law_324 : decode cL_law 324 = .ok (.aload_n 1, 1) := by decide +kernel
theorem dL_law_325 : decode cL_law 325 = .ok (.invokevirtual 31, 3) := by decide +kernel
theorem dL_law_328 : decode cL_law 328 = .ok (.aload_n 2, 1) := by decide +kernel
theorem dL_law_329 : decode cL_law 329 = .ok (.invokevirtual 34, 3) := by decide +kernel
theorem dL_law_332 : decode cL_law 332 = .ok (.if_icmp .eq 1093, 3) := by decide +kernel
theorem dL_law_335 : decode cL_law 335 = .ok (.iconst 0, 1) := by decide +kernel
theorem dL_law_336 : decode cL_law 336 = .ok (.ireturn, 1) := by decide +kernel
theorem dL_law_337 : decode cL_law 337 = .ok (.aload_n 1, 1) := by decide +kernel
theorem dL_law_338 : decode cL_law 338 = .ok (.aload_n 0, 1) := by decide +kernel
theorem dL_law_339 : decode cL_law 339 = .ok (.iload_n 3, 1) := by decide +kernel
theorem dL_law_340 : decode cL_law 340 = .ok (.iconst 1, 1) := by decide +kernel
theorem dL_law_341 : decode cL_law 341 = .ok (.iadd, 1) := by decide +kernel
theorem dL_law_342 : decode cL_law 342 = .ok (.iaload, 1) := by decide +kernel
theorem dL_law_343 : decode cL_law 343 = .ok (.invokevirtual 35, 3) := by decide +kernel
theorem dL_law_346 : decode cL_law 346 = .ok (.aload_n 2, 1) := by decide +kernel
theorem dL_law_347 : decode cL_law 347 = .ok (.aload_n 0, 1) := by decide +kernel
theorem dL_law_348 : decode cL_law 348 = .ok (.iload_n 3, 1) := by decide +kernel
theorem dL_law_349 : decode cL_law 349 = .ok (.iconst 1, 1) := by decide +kernel
theorem dL_law_350 : decode cL_law 350 = .ok (.iadd, 1) := by decide +kernel
theorem dL_law_351 : decode cL_law 351 = .ok (.iaload, 1) := by decide +kernel
theorem dL_law_352 : decode cL_law 352 = .ok (.invokevirtual 38, 3) := by decide +kernel
theorem dL_law_355 : decode cL_law 355 = .ok (.if_icmp .eq 1070, 3) := by decide +kernel
theorem dL_law_358 : decode cL_law 358 = .ok (.iconst 0, 1) := by decide +kernel
theorem dL_law_359 : decode cL_law 359 = .ok (.ireturn, 1) := by decide +kernel
theorem dL_law_360 : decode cL_law 360 = .ok (.aload_n 1, 1) := by decide +kernel
theorem dL_law_361 : decode cL_law 361 = .ok (.invokevirtual 39, 3) := by decide +kernel
theorem dL_law_364 : decode cL_law 364 = .ok (.aload_n 2, 1) := by decide +kernel
theorem dL_law_365 : decode cL_law 365 = .ok (.invokevirtual 42, 3) := by decide +kernel
theorem dL_law_368 : decode cL_law 368 = .ok (.if_icmp .eq 1057, 3) := by decide +kernel
theorem dL_law_371 : decode cL_law 371 = .ok (.iconst 0, 1) := by decide +kernel
theorem dL_law_372 : decode cL_law 372 = .ok (.ireturn, 1) := by decide +kernel
theorem dL_law_373 : decode cL_law 373 = .ok (.aload_n 1, 1) := by decide +kernel
theorem dL_law_374 : decode cL_law 374 = .ok (.aload_n 0, 1) := by decide +kernel
theorem dL_law_375 : decode cL_law 375 = .ok (.iload_n 3, 1) := by decide +kernel
theorem dL_law_376 : decode cL_law 376 = .ok (.iconst 1, 1) := by decide +kernel
theorem dL_law_377 : decode cL_law 377 = .ok (.iadd, 1) := by decide +kernel
theorem dL_law_378 : decode cL_law 378 = .ok (.iaload, 1) := by decide +kernel
theorem dL_law_379 : decode cL_law 379 = .ok (.aload_n 0, 1) := by decide +kernel
theorem dL_law_380 : decode cL_law 380 = .ok (.iload_n 3, 1) := by decide +kernel
theorem dL_law_381 : decode cL_law 381 = .ok (.iconst 2, 1) := by decide +kernel
theorem dL_law_382 : decode cL_law 382 = .ok (.iadd, 1) := by decide +kernel
theorem dL_law_383 : decode cL_law 383 = .ok (.iaload, 1) := by decide +kernel
theorem dL_law_384 : decode cL_law 384 = .ok (.invokevirtual 43, 3) := by decide +kernel
theorem dL_law_387 : decode cL_law 387 = .ok (.aload_n 2, 1) := by decide +kernel
theorem dL_law_388 : decode cL_law 388 = .ok (.aload_n 0, 1) := by decide +kernel
theorem dL_law_389 : decode cL_law 389 = .ok (.iload_n 3, 1) := by decide +kernel
theorem dL_law_390 : decode cL_law 390 = .ok (.iconst 1, 1) := by decide +kernel
theorem dL_law_391 : decode cL_law 391 = .ok (.iadd, 1) := by decide +kernel
theorem dL_law_392 : decode cL_law 392 = .ok (.iaload, 1) := by decide +kernel
theorem dL_law_393 : decode cL_law 393 = .ok (.aload_n 0, 1) := by decide +kernel
theorem dL_law_394 : decode cL_law 394 = .ok (.iload_n 3, 1) := by decide +kernel
theorem dL_law_395 : decode cL_law 395 = .ok (.iconst 2, 1) := by decide +kernel
theorem dL_law_396 : decode cL_law 396 = .ok (.iadd, 1) := by decide +kernel
theorem dL_law_397 : decode cL_law 397 = .ok (.iaload, 1) := by decide +kernel
theorem dL_law_398 : decode cL_law 398 = .ok (.invokevirtual 47, 3) := by decide +kernel
theorem dL_law_401 : decode cL_law 401 = .ok (.if_icmp .eq 1024, 3) := by decide +kernel
theorem dL_law_404 : decode cL_law 404 = .ok (.iconst 0, 1) := by decide +kernel
theorem dL_law_405 : decode cL_law 405 = .ok (.ireturn, 1) := by decide +kernel
theorem dL_law_406 : decode cL_law 406 = .ok (.aload_n 1, 1) := by decide +kernel
theorem dL_law_407 : decode cL_law 407 = .ok (.aload_n 0, 1) := by decide +kernel
theorem dL_law_408 : decode cL_law 408 = .ok (.iload_n 3, 1) := by decide +kernel
theorem dL_law_409 : decode cL_law 409 = .ok (.iconst 1, 1) := by decide +kernel
theorem dL_law_410 : decode cL_law 410 = .ok (.iadd, 1) := by decide +kernel
theorem dL_law_411 : decode cL_law 411 = .ok (.iaload, 1) := by decide +kernel
theorem dL_law_412 : decode cL_law 412 = .ok (.aload_n 0, 1) := by decide +kernel
theorem dL_law_413 : decode cL_law 413 = .ok (.iload_n 3, 1) := by decide +kernel
theorem dL_law_414 : decode cL_law 414 = .ok (.iconst 2, 1) := by decide +kernel
theorem dL_law_415 : decode cL_law 415 = .ok (.iadd, 1) := by decide +kernel
theorem dL_law_416 : decode cL_law 416 = .ok (.iaload, 1) := by decide +kernel
theorem dL_law_417 : decode cL_law 417 = .ok (.aload_n 0, 1) := by decide +kernel
theorem dL_law_418 : decode cL_law 418 = .ok (.iload_n 3, 1) := by decide +kernel
theorem dL_law_419 : decode cL_law 419 = .ok (.iconst 3, 1) := by decide +kernel
theorem dL_law_420 : decode cL_law 420 = .ok (.iadd, 1) := by decide +kernel
theorem dL_law_421 : decode cL_law 421 = .ok (.iaload, 1) := by decide +kernel
theorem dL_law_422 : decode cL_law 422 = .ok (.invokevirtual 48, 3) := by decide +kernel
theorem dL_law_425 : decode cL_law 425 = .ok (.aload_n 2, 1) := by decide +kernel
theorem dL_law_426 : decode cL_law 426 = .ok (.aload_n 0, 1) := by decide +kernel
theorem dL_law_427 : decode cL_law 427 = .ok (.iload_n 3, 1) := by decide +kernel
theorem dL_law_428 : decode cL_law 428 = .ok (.iconst 1, 1) := by decide +kernel
theorem dL_law_429 : decode cL_law 429 = .ok (.iadd, 1) := by decide +kernel
theorem dL_law_430 : decode cL_law 430 = .ok (.iaload, 1) := by decide +kernel
theorem dL_law_431 : decode cL_law 431 = .ok (.aload_n 0, 1) := by decide +kernel
theorem dL_law_432 : decode cL_law 432 = .ok (.iload_n 3, 1) := by decide +kernel
theorem dL_law_433 : decode cL_law 433 = .ok (.iconst 2, 1) := by decide +kernel
theorem dL_law_434 : decode cL_law 434 = .ok (.iadd, 1) := by decide +kernel
theorem dL_law_435 : decode cL_law 435 = .ok (.iaload, 1) := by decide +kernel
theorem dL_law_436 : decode cL_law 436 = .ok (.aload_n 0, 1) := by decide +kernel
theorem dL_law_437 : decode cL_law 437 = .ok (.iload_n 3, 1) := by decide +kernel
theorem dL_law_438 : decode cL_law 438 = .ok (.iconst 3, 1) := by decide +kernel
theorem dL_law_439 : decode cL_law 439 = .ok (.iadd, 1) := by decide +kernel
theorem dL_law_440 : decode cL_law 440 = .ok (.iaload, 1) := by decide +kernel
theorem dL_law_441 : decode cL_law 441 = .ok (.invokevirtual 52, 3) := by decide +kernel
theorem dL_law_444 : decode cL_law 444 = .ok (.if_icmp .eq 981, 3) := by decide +kernel
theorem dL_law_447 : decode cL_law 447 = .ok (.iconst 0, 1) := by decide +kernel
theorem dL_law_448 : decode cL_law 448 = .ok (.ireturn, 1) := by decide +kernel
theorem dL_law_449 : decode cL_law 449 = .ok (.aload_n 1, 1) := by decide +kernel
theorem dL_law_450 : decode cL_law 450 = .ok (.aload_n 0, 1) := by decide +kernel
theorem dL_law_451 : decode cL_law 451 = .ok (.iload_n 3, 1) := by decide +kernel
theorem dL_law_452 : decode cL_law 452 = .ok (.iconst 1, 1) := by decide +kernel
theorem dL_law_453 : decode cL_law 453 = .ok (.iadd, 1) := by decide +kernel
theorem dL_law_454 : decode cL_law 454 = .ok (.iaload, 1) := by decide +kernel
theorem dL_law_455 : decode cL_law 455 = .ok (.aload_n 0, 1) := by decide +kernel
theorem dL_law_456 : decode cL_law 456 = .ok (.iload_n 3, 1) := by decide +kernel
theorem dL_law_457 : decode cL_law 457 = .ok (.iconst 2, 1) := by decide +kernel
theorem dL_law_458 : decode cL_law 458 = .ok (.iadd, 1) := by decide +kernel
theorem dL_law_459 : decode cL_law 459 = .ok (.iaload, 1) := by decide +kernel
theorem dL_law_460 : decode cL_law 460 = .ok (.aload_n 0, 1) := by decide +kernel
theorem dL_law_461 : decode cL_law 461 = .ok (.iload_n 3, 1) := by decide +kernel
theorem dL_law_462 : decode cL_law 462 = .ok (.iconst 3, 1) := by decide +kernel
theorem dL_law_463 : decode cL_law 463 = .ok (.iadd, 1) := by decide +kernel
theorem dL_law_464 : decode cL_law 464 = .ok (.iaload, 1) := by decide +kernel
theorem dL_law_465 : decode cL_law 465 = .ok (.aload_n 0, 1) := by decide +kernel
theorem dL_law_466 : decode cL_law 466 = .ok (.iload_n 3, 1) := by decide +kernel
theorem dL_law_467 : decode cL_law 467 = .ok (.iconst 4, 1) := by decide +kernel
theorem dL_law_468 : decode cL_law 468 = .ok (.iadd, 1) := by decide +kernel
theorem dL_law_469 : decode cL_law 469 = .ok (.iaload, 1) := by decide +kernel
theorem dL_law_470 : decode cL_law 470 = .ok (.invokevirtual 53, 3) := by decide +kernel
theorem dL_law_473 : decode cL_law 473 = .ok (.aload_n 2, 1) := by decide +kernel
theorem dL_law_474 : decode cL_law 474 = .ok (.aload_n 0, 1) := by decide +kernel
theorem dL_law_475 : decode cL_law 475 = .ok (.iload_n 3, 1) := by decide +kernel
theorem dL_law_476 : decode cL_law 476 = .ok (.iconst 1, 1) := by decide +kernel
theorem dL_law_477 : decode cL_law 477 = .ok (.iadd, 1) := by decide +kernel
theorem dL_law_478 : decode cL_law 478 = .ok (.iaload, 1) := by decide +kernel
theorem dL_law_479 : decode cL_law 479 = .ok (.aload_n 0, 1) := by decide +kernel
theorem dL_law_480 : decode cL_law 480 = .ok (.iload_n 3, 1) := by decide +kernel
theorem dL_law_481 : decode cL_law 481 = .ok (.iconst 2, 1) := by decide +kernel
theorem dL_law_482 : decode cL_law 482 = .ok (.iadd, 1) := by decide +kernel
theorem dL_law_483 : decode cL_law 483 = .ok (.iaload, 1) := by decide +kernel
theorem dL_law_484 : decode cL_law 484 = .ok (.aload_n 0, 1) := by decide +kernel
theorem dL_law_485 : decode cL_law 485 = .ok (.iload_n 3, 1) := by decide +kernel
theorem dL_law_486 : decode cL_law 486 = .ok (.iconst 3, 1) := by decide +kernel
theorem dL_law_487 : decode cL_law 487 = .ok (.iadd, 1) := by decide +kernel
theorem dL_law_488 : decode cL_law 488 = .ok (.iaload, 1) := by decide +kernel
theorem dL_law_489 : decode cL_law 489 = .ok (.aload_n 0, 1) := by decide +kernel
theorem dL_law_490 : decode cL_law 490 = .ok (.iload_n 3, 1) := by decide +kernel
theorem dL_law_491 : decode cL_law 491 = .ok (.iconst 4, 1) := by decide +kernel
theorem dL_law_492 : decode cL_law 492 = .ok (.iadd, 1) := by decide +kernel
theorem dL_law_493 : decode cL_law 493 = .ok (.iaload, 1) := by decide +kernel
theorem dL_law_494 : decode cL_law 494 = .ok (.invokevirtual 57, 3) := by decide +kernel
theorem dL_law_497 : decode cL_law 497 = .ok (.if_icmp .eq 928, 3) := by decide +kernel
theorem dL_law_500 : decode cL_law 500 = .ok (.iconst 0, 1) := by decide +kernel
theorem dL_law_501 : decode cL_law 501 = .ok (.ireturn, 1) := by decide +kernel
theorem dL_law_502 : decode cL_law 502 = .ok (.aload_n 1, 1) := by decide +kernel
theorem dL_law_503 : decode cL_law 503 = .ok (.aload_n 0, 1) := by decide +kernel
theorem dL_law_504 : decode cL_law 504 = .ok (.iload_n 3, 1) := by decide +kernel
theorem dL_law_505 : decode cL_law 505 = .ok (.iconst 1, 1) := by decide +kernel
theorem dL_law_506 : decode cL_law 506 = .ok (.iadd, 1) := by decide +kernel
theorem dL_law_507 : decode cL_law 507 = .ok (.iaload, 1) := by decide +kernel
theorem dL_law_508 : decode cL_law 508 = .ok (.aload_n 0, 1) := by decide +kernel
theorem dL_law_509 : decode cL_law 509 = .ok (.iload_n 3, 1) := by decide +kernel
theorem dL_law_510 : decode cL_law 510 = .ok (.iconst 2, 1) := by decide +kernel
theorem dL_law_511 : decode cL_law 511 = .ok (.iadd, 1) := by decide +kernel
theorem dL_law_512 : decode cL_law 512 = .ok (.iaload, 1) := by decide +kernel
theorem dL_law_513 : decode cL_law 513 = .ok (.invokevirtual 58, 3) := by decide +kernel
theorem dL_law_516 : decode cL_law 516 = .ok (.aload_n 2, 1) := by decide +kernel
theorem dL_law_517 : decode cL_law 517 = .ok (.aload_n 0, 1) := by decide +kernel
theorem dL_law_518 : decode cL_law 518 = .ok (.iload_n 3, 1) := by decide +kernel
theorem dL_law_519 : decode cL_law 519 = .ok (.iconst 1, 1) := by decide +kernel
theorem dL_law_520 : decode cL_law 520 = .ok (.iadd, 1) := by decide +kernel
theorem dL_law_521 : decode cL_law 521 = .ok (.iaload, 1) := by decide +kernel
theorem dL_law_522 : decode cL_law 522 = .ok (.aload_n 0, 1) := by decide +kernel
theorem dL_law_523 : decode cL_law 523 = .ok (.iload_n 3, 1) := by decide +kernel
theorem dL_law_524 : decode cL_law 524 = .ok (.iconst 2, 1) := by decide +kernel
theorem dL_law_525 : decode cL_law 525 = .ok (.iadd, 1) := by decide +kernel
theorem dL_law_526 : decode cL_law 526 = .ok (.iaload, 1) := by decide +kernel
theorem dL_law_527 : decode cL_law 527 = .ok (.invokevirtual 61, 3) := by decide +kernel
theorem dL_law_530 : decode cL_law 530 = .ok (.if_icmp .eq 895, 3) := by decide +kernel
theorem dL_law_533 : decode cL_law 533 = .ok (.iconst 0, 1) := by decide +kernel
theorem dL_law_534 : decode cL_law 534 = .ok (.ireturn, 1) := by decide +kernel
theorem dL_law_535 : decode cL_law 535 = .ok (.aload_n 1, 1) := by decide +kernel
theorem dL_law_536 : decode cL_law 536 = .ok (.aload_n 0, 1) := by decide +kernel
theorem dL_law_537 : decode cL_law 537 = .ok (.iload_n 3, 1) := by decide +kernel
theorem dL_law_538 : decode cL_law 538 = .ok (.iconst 1, 1) := by decide +kernel
theorem dL_law_539 : decode cL_law 539 = .ok (.iadd, 1) := by decide +kernel
theorem dL_law_540 : decode cL_law 540 = .ok (.iaload, 1) := by decide +kernel
theorem dL_law_541 : decode cL_law 541 = .ok (.aload_n 0, 1) := by decide +kernel
theorem dL_law_542 : decode cL_law 542 = .ok (.iload_n 3, 1) := by decide +kernel
theorem dL_law_543 : decode cL_law 543 = .ok (.iconst 2, 1) := by decide +kernel
theorem dL_law_544 : decode cL_law 544 = .ok (.iadd, 1) := by decide +kernel
theorem dL_law_545 : decode cL_law 545 = .ok (.iaload, 1) := by decide +kernel
theorem dL_law_546 : decode cL_law 546 = .ok (.aload_n 0, 1) := by decide +kernel
theorem dL_law_547 : decode cL_law 547 = .ok (.iload_n 3, 1) := by decide +kernel
theorem dL_law_548 : decode cL_law 548 = .ok (.iconst 3, 1) := by decide +kernel
theorem dL_law_549 : decode cL_law 549 = .ok (.iadd, 1) := by decide +kernel
theorem dL_law_550 : decode cL_law 550 = .ok (.iaload, 1) := by decide +kernel
theorem dL_law_551 : decode cL_law 551 = .ok (.invokevirtual 62, 3) := by decide +kernel
theorem dL_law_554 : decode cL_law 554 = .ok (.aload_n 2, 1) := by decide +kernel
theorem dL_law_555 : decode cL_law 555 = .ok (.aload_n 0, 1) := by decide +kernel
theorem dL_law_556 : decode cL_law 556 = .ok (.iload_n 3, 1) := by decide +kernel
theorem dL_law_557 : decode cL_law 557 = .ok (.iconst 1, 1) := by decide +kernel
theorem dL_law_558 : decode cL_law 558 = .ok (.iadd, 1) := by decide +kernel
theorem dL_law_559 : decode cL_law 559 = .ok (.iaload, 1) := by decide +kernel
theorem dL_law_560 : decode cL_law 560 = .ok (.aload_n 0, 1) := by decide +kernel
theorem dL_law_561 : decode cL_law 561 = .ok (.iload_n 3, 1) := by decide +kernel
theorem dL_law_562 : decode cL_law 562 = .ok (.iconst 2, 1) := by decide +kernel
theorem dL_law_563 : decode cL_law 563 = .ok (.iadd, 1) := by decide +kernel
theorem dL_law_564 : decode cL_law 564 = .ok (.iaload, 1) := by decide +kernel
theorem dL_law_565 : decode cL_law 565 = .ok (.aload_n 0, 1) := by decide +kernel
theorem dL_law_566 : decode cL_law 566 = .ok (.iload_n 3, 1) := by decide +kernel
theorem dL_law_567 : decode cL_law 567 = .ok (.iconst 3, 1) := by decide +kernel
theorem dL_law_568 : decode cL_law 568 = .ok (.iadd, 1) := by decide +kernel
theorem dL_law_569 : decode cL_law 569 = .ok (.iaload, 1) := by decide +kernel
theorem dL_law_570 : decode cL_law 570 = .ok (.invokevirtual 65, 3) := by decide +kernel
theorem dL_law_573 : decode cL_law 573 = .ok (.if_icmp .eq 852, 3) := by decide +kernel
theorem dL_law_576 : decode cL_law 576 = .ok (.iconst 0, 1) := by decide +kernel
theorem dL_law_577 : decode cL_law 577 = .ok (.ireturn, 1) := by decide +kernel
theorem dL_law_578 : decode cL_law 578 = .ok (.aload_n 1, 1) := by decide +kernel
theorem dL_law_579 : decode cL_law 579 = .ok (.aload_n 0, 1) := by decide +kernel
theorem dL_law_580 : decode cL_law 580 = .ok (.iload_n 3, 1) := by decide +kernel
theorem dL_law_581 : decode cL_law 581 = .ok (.iconst 1, 1) := by decide +kernel
theorem dL_law_582 : decode cL_law 582 = .ok (.iadd, 1) := by decide +kernel
theorem dL_law_583 : decode cL_law 583 = .ok (.iaload, 1) := by decide +kernel
theorem dL_law_584 : decode cL_law 584 = .ok (.aload_n 0, 1) := by decide +kernel
theorem dL_law_585 : decode cL_law 585 = .ok (.iload_n 3, 1) := by decide +kernel
theorem dL_law_586 : decode cL_law 586 = .ok (.iconst 2, 1) := by decide +kernel
theorem dL_law_587 : decode cL_law 587 = .ok (.iadd, 1) := by decide +kernel
theorem dL_law_588 : decode cL_law 588 = .ok (.iaload, 1) := by decide +kernel
theorem dL_law_589 : decode cL_law 589 = .ok (.aload_n 0, 1) := by decide +kernel
theorem dL_law_590 : decode cL_law 590 = .ok (.iload_n 3, 1) := by decide +kernel
theorem dL_law_591 : decode cL_law 591 = .ok (.iconst 3, 1) := by decide +kernel
theorem dL_law_592 : decode cL_law 592 = .ok (.iadd, 1) := by decide +kernel
theorem dL_law_593 : decode cL_law 593 = .ok (.iaload, 1) := by decide +kernel
theorem dL_law_594 : decode cL_law 594 = .ok (.invokevirtual 66, 3) := by decide +kernel
theorem dL_law_597 : decode cL_law 597 = .ok (.aload_n 2, 1) := by decide +kernel
theorem dL_law_598 : decode cL_law 598 = .ok (.aload_n 0, 1) := by decide +kernel
theorem dL_law_599 : decode cL_law 599 = .ok (.iload_n 3, 1) := by decide +kernel
theorem dL_law_600 : decode cL_law 600 = .ok (.iconst 1, 1) := by decide +kernel
theorem dL_law_601 : decode cL_law 601 = .ok (.iadd, 1) := by decide +kernel
theorem dL_law_602 : decode cL_law 602 = .ok (.iaload, 1) := by decide +kernel
theorem dL_law_603 : decode cL_law 603 = .ok (.aload_n 0, 1) := by decide +kernel
theorem dL_law_604 : decode cL_law 604 = .ok (.iload_n 3, 1) := by decide +kernel
theorem dL_law_605 : decode cL_law 605 = .ok (.iconst 2, 1) := by decide +kernel
theorem dL_law_606 : decode cL_law 606 = .ok (.iadd, 1) := by decide +kernel
theorem dL_law_607 : decode cL_law 607 = .ok (.iaload, 1) := by decide +kernel
theorem dL_law_608 : decode cL_law 608 = .ok (.aload_n 0, 1) := by decide +kernel
theorem dL_law_609 : decode cL_law 609 = .ok (.iload_n 3, 1) := by decide +kernel
theorem dL_law_610 : decode cL_law 610 = .ok (.iconst 3, 1) := by decide +kernel
theorem dL_law_611 : decode cL_law 611 = .ok (.iadd, 1) := by decide +kernel
theorem dL_law_612 : decode cL_law 612 = .ok (.iaload, 1) := by decide +kernel
theorem dL_law_613 : decode cL_law 613 = .ok (.invokevirtual 69, 3) := by decide +kernel
theorem dL_law_616 : decode cL_law 616 = .ok (.if_icmp .eq 809, 3) := by decide +kernel
theorem dL_law_619 : decode cL_law 619 = .ok (.iconst 0, 1) := by decide +kernel
theorem dL_law_620 : decode cL_law 620 = .ok (.ireturn, 1) := by decide +kernel
theorem dL_law_621 : decode cL_law 621 = .ok (.aload_n 1, 1) := by decide +kernel
theorem dL_law_622 : decode cL_law 622 = .ok (.aload_n 0, 1) := by decide +kernel
theorem dL_law_623 : decode cL_law 623 = .ok (.iload_n 3, 1) := by decide +kernel
theorem dL_law_624 : decode cL_law 624 = .ok (.iconst 1, 1) := by decide +kernel
theorem dL_law_625 : decode cL_law 625 = .ok (.iadd, 1) := by decide +kernel
theorem dL_law_626 : decode cL_law 626 = .ok (.iaload, 1) := by decide +kernel
theorem dL_law_627 : decode cL_law 627 = .ok (.aload_n 0, 1) := by decide +kernel
theorem dL_law_628 : decode cL_law 628 = .ok (.iload_n 3, 1) := by decide +kernel
theorem dL_law_629 : decode cL_law 629 = .ok (.iconst 2, 1) := by decide +kernel
theorem dL_law_630 : decode cL_law 630 = .ok (.iadd, 1) := by decide +kernel
theorem dL_law_631 : decode cL_law 631 = .ok (.iaload, 1) := by decide +kernel
theorem dL_law_632 : decode cL_law 632 = .ok (.invokevirtual 70, 3) := by decide +kernel
theorem dL_law_635 : decode cL_law 635 = .ok (.aload_n 2, 1) := by decide +kernel
theorem dL_law_636 : decode cL_law 636 = .ok (.aload_n 0, 1) := by decide +kernel
theorem dL_law_637 : decode cL_law 637 = .ok (.iload_n 3, 1) := by decide +kernel
theorem dL_law_638 : decode cL_law 638 = .ok (.iconst 1, 1) := by decide +kernel
theorem dL_law_639 : decode cL_law 639 = .ok (.iadd, 1) := by decide +kernel
theorem dL_law_640 : decode cL_law 640 = .ok (.iaload, 1) := by decide +kernel
theorem dL_law_641 : decode cL_law 641 = .ok (.aload_n 0, 1) := by decide +kernel
theorem dL_law_642 : decode cL_law 642 = .ok (.iload_n 3, 1) := by decide +kernel
theorem dL_law_643 : decode cL_law 643 = .ok (.iconst 2, 1) := by decide +kernel
theorem dL_law_644 : decode cL_law 644 = .ok (.iadd, 1) := by decide +kernel
theorem dL_law_645 : decode cL_law 645 = .ok (.iaload, 1) := by decide +kernel
theorem dL_law_646 : decode cL_law 646 = .ok (.invokevirtual 73, 3) := by decide +kernel
theorem dL_law_649 : decode cL_law 649 = .ok (.if_icmp .eq 776, 3) := by decide +kernel
theorem dL_law_652 : decode cL_law 652 = .ok (.iconst 0, 1) := by decide +kernel
theorem dL_law_653 : decode cL_law 653 = .ok (.ireturn, 1) := by decide +kernel
theorem dL_law_654 : decode cL_law 654 = .ok (.aload_n 1, 1) := by decide +kernel
theorem dL_law_655 : decode cL_law 655 = .ok (.aload_n 0, 1) := by decide +kernel
theorem dL_law_656 : decode cL_law 656 = .ok (.iload_n 3, 1) := by decide +kernel
theorem dL_law_657 : decode cL_law 657 = .ok (.iconst 1, 1) := by decide +kernel
theorem dL_law_658 : decode cL_law 658 = .ok (.iadd, 1) := by decide +kernel
theorem dL_law_659 : decode cL_law 659 = .ok (.iaload, 1) := by decide +kernel
theorem dL_law_660 : decode cL_law 660 = .ok (.aload_n 0, 1) := by decide +kernel
theorem dL_law_661 : decode cL_law 661 = .ok (.iload_n 3, 1) := by decide +kernel
theorem dL_law_662 : decode cL_law 662 = .ok (.iconst 2, 1) := by decide +kernel
theorem dL_law_663 : decode cL_law 663 = .ok (.iadd, 1) := by decide +kernel
theorem dL_law_664 : decode cL_law 664 = .ok (.iaload, 1) := by decide +kernel
theorem dL_law_665 : decode cL_law 665 = .ok (.aload_n 0, 1) := by decide +kernel
theorem dL_law_666 : decode cL_law 666 = .ok (.iload_n 3, 1) := by decide +kernel
theorem dL_law_667 : decode cL_law 667 = .ok (.iconst 3, 1) := by decide +kernel
theorem dL_law_668 : decode cL_law 668 = .ok (.iadd, 1) := by decide +kernel
theorem dL_law_669 : decode cL_law 669 = .ok (.iaload, 1) := by decide +kernel
theorem dL_law_670 : decode cL_law 670 = .ok (.invokevirtual 74, 3) := by decide +kernel
theorem dL_law_673 : decode cL_law 673 = .ok (.aload_n 2, 1) := by decide +kernel
theorem dL_law_674 : decode cL_law 674 = .ok (.aload_n 0, 1) := by decide +kernel
theorem dL_law_675 : decode cL_law 675 = .ok (.iload_n 3, 1) := by decide +kernel
theorem dL_law_676 : decode cL_law 676 = .ok (.iconst 1, 1) := by decide +kernel
theorem dL_law_677 : decode cL_law 677 = .ok (.iadd, 1) := by decide +kernel
theorem dL_law_678 : decode cL_law 678 = .ok (.iaload, 1) := by decide +kernel
theorem dL_law_679 : decode cL_law 679 = .ok (.aload_n 0, 1) := by decide +kernel
theorem dL_law_680 : decode cL_law 680 = .ok (.iload_n 3, 1) := by decide +kernel
theorem dL_law_681 : decode cL_law 681 = .ok (.iconst 2, 1) := by decide +kernel
theorem dL_law_682 : decode cL_law 682 = .ok (.iadd, 1) := by decide +kernel
theorem dL_law_683 : decode cL_law 683 = .ok (.iaload, 1) := by decide +kernel
theorem dL_law_684 : decode cL_law 684 = .ok (.aload_n 0, 1) := by decide +kernel
theorem dL_law_685 : decode cL_law 685 = .ok (.iload_n 3, 1) := by decide +kernel
theorem dL_law_686 : decode cL_law 686 = .ok (.iconst 3, 1) := by decide +kernel
theorem dL_law_687 : decode cL_law 687 = .ok (.iadd, 1) := by decide +kernel
theorem dL_law_688 : decode cL_law 688 = .ok (.iaload, 1) := by decide +kernel
theorem dL_law_689 : decode cL_law 689 = .ok (.invokevirtual 77, 3) := by decide +kernel
theorem dL_law_692 : decode cL_law 692 = .ok (.if_icmp .eq 733, 3) := by decide +kernel
theorem dL_law_695 : decode cL_law 695 = .ok (.iconst 0, 1) := by decide +kernel
theorem dL_law_696 : decode cL_law 696 = .ok (.ireturn, 1) := by decide +kernel
theorem dL_law_697 : decode cL_law 697 = .ok (.aload_n 1, 1) := by decide +kernel
theorem dL_law_698 : decode cL_law 698 = .ok (.aload_n 0, 1) := by decide +kernel
theorem dL_law_699 : decode cL_law 699 = .ok (.iload_n 3, 1) := by decide +kernel
theorem dL_law_700 : decode cL_law 700 = .ok (.iconst 1, 1) := by decide +kernel
theorem dL_law_701 : decode cL_law 701 = .ok (.iadd, 1) := by decide +kernel
theorem dL_law_702 : decode cL_law 702 = .ok (.iaload, 1) := by decide +kernel
theorem dL_law_703 : decode cL_law 703 = .ok (.aload_n 0, 1) := by decide +kernel
theorem dL_law_704 : decode cL_law 704 = .ok (.iload_n 3, 1) := by decide +kernel
theorem dL_law_705 : decode cL_law 705 = .ok (.iconst 2, 1) := by decide +kernel
theorem dL_law_706 : decode cL_law 706 = .ok (.iadd, 1) := by decide +kernel
theorem dL_law_707 : decode cL_law 707 = .ok (.iaload, 1) := by decide +kernel
theorem dL_law_708 : decode cL_law 708 = .ok (.aload_n 0, 1) := by decide +kernel
theorem dL_law_709 : decode cL_law 709 = .ok (.iload_n 3, 1) := by decide +kernel
theorem dL_law_710 : decode cL_law 710 = .ok (.iconst 3, 1) := by decide +kernel
theorem dL_law_711 : decode cL_law 711 = .ok (.iadd, 1) := by decide +kernel
theorem dL_law_712 : decode cL_law 712 = .ok (.iaload, 1) := by decide +kernel
theorem dL_law_713 : decode cL_law 713 = .ok (.invokevirtual 78, 3) := by decide +kernel
theorem dL_law_716 : decode cL_law 716 = .ok (.aload_n 2, 1) := by decide +kernel
theorem dL_law_717 : decode cL_law 717 = .ok (.aload_n 0, 1) := by decide +kernel
theorem dL_law_718 : decode cL_law 718 = .ok (.iload_n 3, 1) := by decide +kernel
theorem dL_law_719 : decode cL_law 719 = .ok (.iconst 1, 1) := by decide +kernel
theorem dL_law_720 : decode cL_law 720 = .ok (.iadd, 1) := by decide +kernel
theorem dL_law_721 : decode cL_law 721 = .ok (.iaload, 1) := by decide +kernel
theorem dL_law_722 : decode cL_law 722 = .ok (.aload_n 0, 1) := by decide +kernel
theorem dL_law_723 : decode cL_law 723 = .ok (.iload_n 3, 1) := by decide +kernel
theorem dL_law_724 : decode cL_law 724 = .ok (.iconst 2, 1) := by decide +kernel
theorem dL_law_725 : decode cL_law 725 = .ok (.iadd, 1) := by decide +kernel
theorem dL_law_726 : decode cL_law 726 = .ok (.iaload, 1) := by decide +kernel
theorem dL_law_727 : decode cL_law 727 = .ok (.aload_n 0, 1) := by decide +kernel
theorem dL_law_728 : decode cL_law 728 = .ok (.iload_n 3, 1) := by decide +kernel
theorem dL_law_729 : decode cL_law 729 = .ok (.iconst 3, 1) := by decide +kernel
theorem dL_law_730 : decode cL_law 730 = .ok (.iadd, 1) := by decide +kernel
theorem dL_law_731 : decode cL_law 731 = .ok (.iaload, 1) := by decide +kernel
theorem dL_law_732 : decode cL_law 732 = .ok (.invokevirtual 81, 3) := by decide +kernel
theorem dL_law_735 : decode cL_law 735 = .ok (.if_icmp .eq 690, 3) := by decide +kernel
theorem dL_law_738 : decode cL_law 738 = .ok (.iconst 0, 1) := by decide +kernel
theorem dL_law_739 : decode cL_law 739 = .ok (.ireturn, 1) := by decide +kernel
theorem dL_law_740 : decode cL_law 740 = .ok (.aload_n 1, 1) := by decide +kernel
theorem dL_law_741 : decode cL_law 741 = .ok (.aload_n 0, 1) := by decide +kernel
theorem dL_law_742 : decode cL_law 742 = .ok (.iload_n 3, 1) := by decide +kernel
theorem dL_law_743 : decode cL_law 743 = .ok (.iconst 1, 1) := by decide +kernel
theorem dL_law_744 : decode cL_law 744 = .ok (.iadd, 1) := by decide +kernel
theorem dL_law_745 : decode cL_law 745 = .ok (.iaload, 1) := by decide +kernel
theorem dL_law_746 : decode cL_law 746 = .ok (.aload_n 0, 1) := by decide +kernel
theorem dL_law_747 : decode cL_law 747 = .ok (.iload_n 3, 1) := by decide +kernel
theorem dL_law_748 : decode cL_law 748 = .ok (.iconst 2, 1) := by decide +kernel
theorem dL_law_749 : decode cL_law 749 = .ok (.iadd, 1) := by decide +kernel
theorem dL_law_750 : decode cL_law 750 = .ok (.iaload, 1) := by decide +kernel
theorem dL_law_751 : decode cL_law 751 = .ok (.aload_n 0, 1) := by decide +kernel
theorem dL_law_752 : decode cL_law 752 = .ok (.iload_n 3, 1) := by decide +kernel
theorem dL_law_753 : decode cL_law 753 = .ok (.iconst 3, 1) := by decide +kernel
theorem dL_law_754 : decode cL_law 754 = .ok (.iadd, 1) := by decide +kernel
theorem dL_law_755 : decode cL_law 755 = .ok (.iaload, 1) := by decide +kernel
theorem dL_law_756 : decode cL_law 756 = .ok (.invokevirtual 82, 3) := by decide +kernel
theorem dL_law_759 : decode cL_law 759 = .ok (.aload_n 2, 1) := by decide +kernel
theorem dL_law_760 : decode cL_law 760 = .ok (.aload_n 0, 1) := by decide +kernel
theorem dL_law_761 : decode cL_law 761 = .ok (.iload_n 3, 1) := by decide +kernel
theorem dL_law_762 : decode cL_law 762 = .ok (.iconst 1, 1) := by decide +kernel
theorem dL_law_763 : decode cL_law 763 = .ok (.iadd, 1) := by decide +kernel
theorem dL_law_764 : decode cL_law 764 = .ok (.iaload, 1) := by decide +kernel
theorem dL_law_765 : decode cL_law 765 = .ok (.aload_n 0, 1) := by decide +kernel
theorem dL_law_766 : decode cL_law 766 = .ok (.iload_n 3, 1) := by decide +kernel
theorem dL_law_767 : decode cL_law 767 = .ok (.iconst 2, 1) := by decide +kernel
theorem dL_law_768 : decode cL_law 768 = .ok (.iadd, 1) := by decide +kernel
theorem dL_law_769 : decode cL_law 769 = .ok (.iaload, 1) := by decide +kernel
theorem dL_law_770 : decode cL_law 770 = .ok (.aload_n 0, 1) := by decide +kernel
theorem dL_law_771 : decode cL_law 771 = .ok (.iload_n 3, 1) := by decide +kernel
theorem dL_law_772 : decode cL_law 772 = .ok (.iconst 3, 1) := by decide +kernel
theorem dL_law_773 : decode cL_law 773 = .ok (.iadd, 1) := by decide +kernel
theorem dL_law_774 : decode cL_law 774 = .ok (.iaload, 1) := by decide +kernel
theorem dL_law_775 : decode cL_law 775 = .ok (.invokevirtual 85, 3) := by decide +kernel
theorem dL_law_778 : decode cL_law 778 = .ok (.if_icmp .eq 647, 3) := by decide +kernel
theorem dL_law_781 : decode cL_law 781 = .ok (.iconst 0, 1) := by decide +kernel
theorem dL_law_782 : decode cL_law 782 = .ok (.ireturn, 1) := by decide +kernel
theorem dL_law_783 : decode cL_law 783 = .ok (.aload_n 1, 1) := by decide +kernel
theorem dL_law_784 : decode cL_law 784 = .ok (.aload_n 0, 1) := by decide +kernel
theorem dL_law_785 : decode cL_law 785 = .ok (.iload_n 3, 1) := by decide +kernel
theorem dL_law_786 : decode cL_law 786 = .ok (.iconst 1, 1) := by decide +kernel
theorem dL_law_787 : decode cL_law 787 = .ok (.iadd, 1) := by decide +kernel
theorem dL_law_788 : decode cL_law 788 = .ok (.iaload, 1) := by decide +kernel
theorem dL_law_789 : decode cL_law 789 = .ok (.aload_n 0, 1) := by decide +kernel
theorem dL_law_790 : decode cL_law 790 = .ok (.iload_n 3, 1) := by decide +kernel
theorem dL_law_791 : decode cL_law 791 = .ok (.iconst 2, 1) := by decide +kernel
theorem dL_law_792 : decode cL_law 792 = .ok (.iadd, 1) := by decide +kernel
theorem dL_law_793 : decode cL_law 793 = .ok (.iaload, 1) := by decide +kernel
theorem dL_law_794 : decode cL_law 794 = .ok (.invokevirtual 86, 3) := by decide +kernel
theorem dL_law_797 : decode cL_law 797 = .ok (.aload_n 2, 1) := by decide +kernel
theorem dL_law_798 : decode cL_law 798 = .ok (.aload_n 0, 1) := by decide +kernel
theorem dL_law_799 : decode cL_law 799 = .ok (.iload_n 3, 1) := by decide +kernel
theorem dL_law_800 : decode cL_law 800 = .ok (.iconst 1, 1) := by decide +kernel
theorem dL_law_801 : decode cL_law 801 = .ok (.iadd, 1) := by decide +kernel
theorem dL_law_802 : decode cL_law 802 = .ok (.iaload, 1) := by decide +kernel
theorem dL_law_803 : decode cL_law 803 = .ok (.aload_n 0, 1) := by decide +kernel
theorem dL_law_804 : decode cL_law 804 = .ok (.iload_n 3, 1) := by decide +kernel
theorem dL_law_805 : decode cL_law 805 = .ok (.iconst 2, 1) := by decide +kernel
theorem dL_law_806 : decode cL_law 806 = .ok (.iadd, 1) := by decide +kernel
theorem dL_law_807 : decode cL_law 807 = .ok (.iaload, 1) := by decide +kernel
theorem dL_law_808 : decode cL_law 808 = .ok (.invokevirtual 89, 3) := by decide +kernel
theorem dL_law_811 : decode cL_law 811 = .ok (.if_icmp .eq 614, 3) := by decide +kernel
theorem dL_law_814 : decode cL_law 814 = .ok (.iconst 0, 1) := by decide +kernel
theorem dL_law_815 : decode cL_law 815 = .ok (.ireturn, 1) := by decide +kernel
theorem dL_law_816 : decode cL_law 816 = .ok (.aload_n 1, 1) := by decide +kernel
theorem dL_law_817 : decode cL_law 817 = .ok (.aload_n 0, 1) := by decide +kernel
theorem dL_law_818 : decode cL_law 818 = .ok (.iload_n 3, 1) := by decide +kernel
theorem dL_law_819 : decode cL_law 819 = .ok (.iconst 1, 1) := by decide +kernel
theorem dL_law_820 : decode cL_law 820 = .ok (.iadd, 1) := by decide +kernel
theorem dL_law_821 : decode cL_law 821 = .ok (.iaload, 1) := by decide +kernel
theorem dL_law_822 : decode cL_law 822 = .ok (.invokevirtual 90, 3) := by decide +kernel
theorem dL_law_825 : decode cL_law 825 = .ok (.aload_n 2, 1) := by decide +kernel
theorem dL_law_826 : decode cL_law 826 = .ok (.aload_n 0, 1) := by decide +kernel
theorem dL_law_827 : decode cL_law 827 = .ok (.iload_n 3, 1) := by decide +kernel
theorem dL_law_828 : decode cL_law 828 = .ok (.iconst 1, 1) := by decide +kernel
theorem dL_law_829 : decode cL_law 829 = .ok (.iadd, 1) := by decide +kernel
theorem dL_law_830 : decode cL_law 830 = .ok (.iaload, 1) := by decide +kernel
theorem dL_law_831 : decode cL_law 831 = .ok (.invokevirtual 93, 3) := by decide +kernel
theorem dL_law_834 : decode cL_law 834 = .ok (.if_icmp .eq 591, 3) := by decide +kernel
theorem dL_law_837 : decode cL_law 837 = .ok (.iconst 0, 1) := by decide +kernel
theorem dL_law_838 : decode cL_law 838 = .ok (.ireturn, 1) := by decide +kernel
theorem dL_law_839 : decode cL_law 839 = .ok (.aload_n 1, 1) := by decide +kernel
theorem dL_law_840 : decode cL_law 840 = .ok (.invokevirtual 94, 3) := by decide +kernel
theorem dL_law_843 : decode cL_law 843 = .ok (.aload_n 2, 1) := by decide +kernel
theorem dL_law_844 : decode cL_law 844 = .ok (.invokevirtual 97, 3) := by decide +kernel
theorem dL_law_847 : decode cL_law 847 = .ok (.if_icmp .eq 578, 3) := by decide +kernel
theorem dL_law_850 : decode cL_law 850 = .ok (.iconst 0, 1) := by decide +kernel
theorem dL_law_851 : decode cL_law 851 = .ok (.ireturn, 1) := by decide +kernel
theorem dL_law_852 : decode cL_law 852 = .ok (.aload_n 1, 1) := by decide +kernel
theorem dL_law_853 : decode cL_law 853 = .ok (.invokevirtual 98, 3) := by decide +kernel
theorem dL_law_856 : decode cL_law 856 = .ok (.aload_n 2, 1) := by decide +kernel
theorem dL_law_857 : decode cL_law 857 = .ok (.invokevirtual 101, 3) := by decide +kernel
theorem dL_law_860 : decode cL_law 860 = .ok (.if_icmp .eq 565, 3) := by decide +kernel
theorem dL_law_863 : decode cL_law 863 = .ok (.iconst 0, 1) := by decide +kernel
theorem dL_law_864 : decode cL_law 864 = .ok (.ireturn, 1) := by decide +kernel
theorem dL_law_865 : decode cL_law 865 = .ok (.aload_n 1, 1) := by decide +kernel
theorem dL_law_866 : decode cL_law 866 = .ok (.invokevirtual 102, 3) := by decide +kernel
theorem dL_law_869 : decode cL_law 869 = .ok (.aload_n 2, 1) := by decide +kernel
theorem dL_law_870 : decode cL_law 870 = .ok (.invokevirtual 105, 3) := by decide +kernel
theorem dL_law_873 : decode cL_law 873 = .ok (.if_icmp .eq 552, 3) := by decide +kernel
theorem dL_law_876 : decode cL_law 876 = .ok (.iconst 0, 1) := by decide +kernel
theorem dL_law_877 : decode cL_law 877 = .ok (.ireturn, 1) := by decide +kernel
theorem dL_law_878 : decode cL_law 878 = .ok (.aload_n 1, 1) := by decide +kernel
theorem dL_law_879 : decode cL_law 879 = .ok (.aload_n 0, 1) := by decide +kernel
theorem dL_law_880 : decode cL_law 880 = .ok (.iload_n 3, 1) := by decide +kernel
theorem dL_law_881 : decode cL_law 881 = .ok (.iconst 1, 1) := by decide +kernel
theorem dL_law_882 : decode cL_law 882 = .ok (.iadd, 1) := by decide +kernel
theorem dL_law_883 : decode cL_law 883 = .ok (.iaload, 1) := by decide +kernel
theorem dL_law_884 : decode cL_law 884 = .ok (.invokevirtual 106, 3) := by decide +kernel
theorem dL_law_887 : decode cL_law 887 = .ok (.aload_n 2, 1) := by decide +kernel
theorem dL_law_888 : decode cL_law 888 = .ok (.aload_n 0, 1) := by decide +kernel
theorem dL_law_889 : decode cL_law 889 = .ok (.iload_n 3, 1) := by decide +kernel
theorem dL_law_890 : decode cL_law 890 = .ok (.iconst 1, 1) := by decide +kernel
theorem dL_law_891 : decode cL_law 891 = .ok (.iadd, 1) := by decide +kernel
theorem dL_law_892 : decode cL_law 892 = .ok (.iaload, 1) := by decide +kernel
theorem dL_law_893 : decode cL_law 893 = .ok (.invokevirtual 109, 3) := by decide +kernel
theorem dL_law_896 : decode cL_law 896 = .ok (.if_icmp .eq 529, 3) := by decide +kernel
theorem dL_law_899 : decode cL_law 899 = .ok (.iconst 0, 1) := by decide +kernel
theorem dL_law_900 : decode cL_law 900 = .ok (.ireturn, 1) := by decide +kernel
theorem dL_law_901 : decode cL_law 901 = .ok (.aload_n 1, 1) := by decide +kernel
theorem dL_law_902 : decode cL_law 902 = .ok (.aload_n 0, 1) := by decide +kernel
theorem dL_law_903 : decode cL_law 903 = .ok (.iload_n 3, 1) := by decide +kernel
theorem dL_law_904 : decode cL_law 904 = .ok (.iconst 1, 1) := by decide +kernel
theorem dL_law_905 : decode cL_law 905 = .ok (.iadd, 1) := by decide +kernel
theorem dL_law_906 : decode cL_law 906 = .ok (.iaload, 1) := by decide +kernel
theorem dL_law_907 : decode cL_law 907 = .ok (.invokevirtual 110, 3) := by decide +kernel
theorem dL_law_910 : decode cL_law 910 = .ok (.aload_n 2, 1) := by decide +kernel
theorem dL_law_911 : decode cL_law 911 = .ok (.aload_n 0, 1) := by decide +kernel
theorem dL_law_912 : decode cL_law 912 = .ok (.iload_n 3, 1) := by decide +kernel
theorem dL_law_913 : decode cL_law 913 = .ok (.iconst 1, 1) := by decide +kernel
theorem dL_law_914 : decode cL_law 914 = .ok (.iadd, 1) := by decide +kernel
theorem dL_law_915 : decode cL_law 915 = .ok (.iaload, 1) := by decide +kernel
theorem dL_law_916 : decode cL_law 916 = .ok (.invokevirtual 113, 3) := by decide +kernel
theorem dL_law_919 : decode cL_law 919 = .ok (.if_icmp .eq 506, 3) := by decide +kernel
theorem dL_law_922 : decode cL_law 922 = .ok (.iconst 0, 1) := by decide +kernel
theorem dL_law_923 : decode cL_law 923 = .ok (.ireturn, 1) := by decide +kernel
theorem dL_law_924 : decode cL_law 924 = .ok (.aload_n 1, 1) := by decide +kernel
theorem dL_law_925 : decode cL_law 925 = .ok (.aload_n 0, 1) := by decide +kernel
theorem dL_law_926 : decode cL_law 926 = .ok (.iload_n 3, 1) := by decide +kernel
theorem dL_law_927 : decode cL_law 927 = .ok (.iconst 1, 1) := by decide +kernel
theorem dL_law_928 : decode cL_law 928 = .ok (.iadd, 1) := by decide +kernel
theorem dL_law_929 : decode cL_law 929 = .ok (.iaload, 1) := by decide +kernel
theorem dL_law_930 : decode cL_law 930 = .ok (.invokevirtual 114, 3) := by decide +kernel
theorem dL_law_933 : decode cL_law 933 = .ok (.aload_n 2, 1) := by decide +kernel
theorem dL_law_934 : decode cL_law 934 = .ok (.aload_n 0, 1) := by decide +kernel
theorem dL_law_935 : decode cL_law 935 = .ok (.iload_n 3, 1) := by decide +kernel
theorem dL_law_936 : decode cL_law 936 = .ok (.iconst 1, 1) := by decide +kernel
theorem dL_law_937 : decode cL_law 937 = .ok (.iadd, 1) := by decide +kernel
theorem dL_law_938 : decode cL_law 938 = .ok (.iaload, 1) := by decide +kernel
theorem dL_law_939 : decode cL_law 939 = .ok (.invokevirtual 117, 3) := by decide +kernel
theorem dL_law_942 : decode cL_law 942 = .ok (.if_icmp .eq 483, 3) := by decide +kernel
theorem dL_law_945 : decode cL_law 945 = .ok (.iconst 0, 1) := by decide +kernel
theorem dL_law_946 : decode cL_law 946 = .ok (.ireturn, 1) := by decide +kernel
theorem dL_law_947 : decode cL_law 947 = .ok (.aload_n 1, 1) := by decide +kernel
theorem dL_law_948 : decode cL_law 948 = .ok (.aload_n 0, 1) := by decide +kernel
theorem dL_law_949 : decode cL_law 949 = .ok (.iload_n 3, 1) := by decide +kernel
theorem dL_law_950 : decode cL_law 950 = .ok (.iconst 1, 1) := by decide +kernel
theorem dL_law_951 : decode cL_law 951 = .ok (.iadd, 1) := by decide +kernel
theorem dL_law_952 : decode cL_law 952 = .ok (.iaload, 1) := by decide +kernel
theorem dL_law_953 : decode cL_law 953 = .ok (.invokevirtual 118, 3) := by decide +kernel
theorem dL_law_956 : decode cL_law 956 = .ok (.aload_n 2, 1) := by decide +kernel
theorem dL_law_957 : decode cL_law 957 = .ok (.aload_n 0, 1) := by decide +kernel
theorem dL_law_958 : decode cL_law 958 = .ok (.iload_n 3, 1) := by decide +kernel
theorem dL_law_959 : decode cL_law 959 = .ok (.iconst 1, 1) := by decide +kernel
theorem dL_law_960 : decode cL_law 960 = .ok (.iadd, 1) := by decide +kernel
theorem dL_law_961 : decode cL_law 961 = .ok (.iaload, 1) := by decide +kernel
theorem dL_law_962 : decode cL_law 962 = .ok (.invokevirtual 121, 3) := by decide +kernel
theorem dL_law_965 : decode cL_law 965 = .ok (.if_icmp .eq 460, 3) := by decide +kernel
theorem dL_law_968 : decode cL_law 968 = .ok (.iconst 0, 1) := by decide +kernel
theorem dL_law_969 : decode cL_law 969 = .ok (.ireturn, 1) := by decide +kernel
theorem dL_law_970 : decode cL_law 970 = .ok (.aload_n 1, 1) := by decide +kernel
theorem dL_law_971 : decode cL_law 971 = .ok (.aload_n 0, 1) := by decide +kernel
theorem dL_law_972 : decode cL_law 972 = .ok (.iload_n 3, 1) := by decide +kernel
theorem dL_law_973 : decode cL_law 973 = .ok (.iconst 1, 1) := by decide +kernel
theorem dL_law_974 : decode cL_law 974 = .ok (.iadd, 1) := by decide +kernel
theorem dL_law_975 : decode cL_law 975 = .ok (.iaload, 1) := by decide +kernel
theorem dL_law_976 : decode cL_law 976 = .ok (.invokevirtual 122, 3) := by decide +kernel
theorem dL_law_979 : decode cL_law 979 = .ok (.aload_n 2, 1) := by decide +kernel
theorem dL_law_980 : decode cL_law 980 = .ok (.aload_n 0, 1) := by decide +kernel
theorem dL_law_981 : decode cL_law 981 = .ok (.iload_n 3, 1) := by decide +kernel
theorem dL_law_982 : decode cL_law 982 = .ok (.iconst 1, 1) := by decide +kernel
theorem dL_law_983 : decode cL_law 983 = .ok (.iadd, 1) := by decide +kernel
theorem dL_law_984 : decode cL_law 984 = .ok (.iaload, 1) := by decide +kernel
theorem dL_law_985 : decode cL_law 985 = .ok (.invokevirtual 125, 3) := by decide +kernel
theorem dL_law_988 : decode cL_law 988 = .ok (.if_icmp .eq 437, 3) := by decide +kernel
theorem dL_law_991 : decode cL_law 991 = .ok (.iconst 0, 1) := by decide +kernel
theorem dL_law_992 : decode cL_law 992 = .ok (.ireturn, 1) := by decide +kernel
theorem dL_law_993 : decode cL_law 993 = .ok (.aload_n 1, 1) := by decide +kernel
theorem dL_law_994 : decode cL_law 994 = .ok (.aload_n 0, 1) := by decide +kernel
theorem dL_law_995 : decode cL_law 995 = .ok (.iload_n 3, 1) := by decide +kernel
theorem dL_law_996 : decode cL_law 996 = .ok (.iconst 1, 1) := by decide +kernel
theorem dL_law_997 : decode cL_law 997 = .ok (.iadd, 1) := by decide +kernel
theorem dL_law_998 : decode cL_law 998 = .ok (.iaload, 1) := by decide +kernel
theorem dL_law_999 : decode cL_law 999 = .ok (.invokevirtual 126, 3) := by decide +kernel
theorem dL_law_1002 : decode cL_law 1002 = .ok (.aload_n 2, 1) := by decide +kernel
theorem dL_law_1003 : decode cL_law 1003 = .ok (.aload_n 0, 1) := by decide +kernel
theorem dL_law_1004 : decode cL_law 1004 = .ok (.iload_n 3, 1) := by decide +kernel
theorem dL_law_1005 : decode cL_law 1005 = .ok (.iconst 1, 1) := by decide +kernel
theorem dL_law_1006 : decode cL_law 1006 = .ok (.iadd, 1) := by decide +kernel
theorem dL_law_1007 : decode cL_law 1007 = .ok (.iaload, 1) := by decide +kernel
theorem dL_law_1008 : decode cL_law 1008 = .ok (.invokevirtual 129, 3) := by decide +kernel
theorem dL_law_1011 : decode cL_law 1011 = .ok (.if_icmp .eq 414, 3) := by decide +kernel
theorem dL_law_1014 : decode cL_law 1014 = .ok (.iconst 0, 1) := by decide +kernel
theorem dL_law_1015 : decode cL_law 1015 = .ok (.ireturn, 1) := by decide +kernel
theorem dL_law_1016 : decode cL_law 1016 = .ok (.aload_n 1, 1) := by decide +kernel
theorem dL_law_1017 : decode cL_law 1017 = .ok (.aload_n 0, 1) := by decide +kernel
theorem dL_law_1018 : decode cL_law 1018 = .ok (.iload_n 3, 1) := by decide +kernel
theorem dL_law_1019 : decode cL_law 1019 = .ok (.iconst 1, 1) := by decide +kernel
theorem dL_law_1020 : decode cL_law 1020 = .ok (.iadd, 1) := by decide +kernel
theorem dL_law_1021 : decode cL_law 1021 = .ok (.iaload, 1) := by decide +kernel
theorem dL_law_1022 : decode cL_law 1022 = .ok (.aload_n 0, 1) := by decide +kernel
theorem dL_law_1023 : decode cL_law 1023 = .ok (.iload_n 3, 1) := by decide +kernel
theorem dL_law_1024 : decode cL_law 1024 = .ok (.iconst 2, 1) := by decide +kernel
theorem dL_law_1025 : decode cL_law 1025 = .ok (.iadd, 1) := by decide +kernel
theorem dL_law_1026 : decode cL_law 1026 = .ok (.iaload, 1) := by decide +kernel
theorem dL_law_1027 : decode cL_law 1027 = .ok (.invokevirtual 130, 3) := by decide +kernel
theorem dL_law_1030 : decode cL_law 1030 = .ok (.aload_n 2, 1) := by decide +kernel
theorem dL_law_1031 : decode cL_law 1031 = .ok (.aload_n 0, 1) := by decide +kernel
theorem dL_law_1032 : decode cL_law 1032 = .ok (.iload_n 3, 1) := by decide +kernel
theorem dL_law_1033 : decode cL_law 1033 = .ok (.iconst 1, 1) := by decide +kernel
theorem dL_law_1034 : decode cL_law 1034 = .ok (.iadd, 1) := by decide +kernel
theorem dL_law_1035 : decode cL_law 1035 = .ok (.iaload, 1) := by decide +kernel
theorem dL_law_1036 : decode cL_law 1036 = .ok (.aload_n 0, 1) := by decide +kernel
theorem dL_law_1037 : decode cL_law 1037 = .ok (.iload_n 3, 1) := by decide +kernel
theorem dL_law_1038 : decode cL_law 1038 = .ok (.iconst 2, 1) := by decide +kernel
theorem dL_law_1039 : decode cL_law 1039 = .ok (.iadd, 1) := by decide +kernel
theorem dL_law_1040 : decode cL_law 1040 = .ok (.iaload, 1) := by decide +kernel
theorem dL_law_1041 : decode cL_law 1041 = .ok (.invokevirtual 133, 3) := by decide +kernel
theorem dL_law_1044 : decode cL_law 1044 = .ok (.if_icmp .eq 381, 3) := by decide +kernel
theorem dL_law_1047 : decode cL_law 1047 = .ok (.iconst 0, 1) := by decide +kernel
theorem dL_law_1048 : decode cL_law 1048 = .ok (.ireturn, 1) := by decide +kernel
theorem dL_law_1049 : decode cL_law 1049 = .ok (.aload_n 1, 1) := by decide +kernel
theorem dL_law_1050 : decode cL_law 1050 = .ok (.invokevirtual 134, 3) := by decide +kernel
theorem dL_law_1053 : decode cL_law 1053 = .ok (.aload_n 2, 1) := by decide +kernel
theorem dL_law_1054 : decode cL_law 1054 = .ok (.invokevirtual 137, 3) := by decide +kernel
theorem dL_law_1057 : decode cL_law 1057 = .ok (.if_icmp .eq 368, 3) := by decide +kernel
theorem dL_law_1060 : decode cL_law 1060 = .ok (.iconst 0, 1) := by decide +kernel
theorem dL_law_1061 : decode cL_law 1061 = .ok (.ireturn, 1) := by decide +kernel
theorem dL_law_1062 : decode cL_law 1062 = .ok (.aload_n 1, 1) := by decide +kernel
theorem dL_law_1063 : decode cL_law 1063 = .ok (.invokevirtual 138, 3) := by decide +kernel
theorem dL_law_1066 : decode cL_law 1066 = .ok (.aload_n 2, 1) := by decide +kernel
theorem dL_law_1067 : decode cL_law 1067 = .ok (.invokevirtual 141, 3) := by decide +kernel
theorem dL_law_1070 : decode cL_law 1070 = .ok (.if_icmp .eq 355, 3) := by decide +kernel
theorem dL_law_1073 : decode cL_law 1073 = .ok (.iconst 0, 1) := by decide +kernel
theorem dL_law_1074 : decode cL_law 1074 = .ok (.ireturn, 1) := by decide +kernel
theorem dL_law_1075 : decode cL_law 1075 = .ok (.aload_n 1, 1) := by decide +kernel
theorem dL_law_1076 : decode cL_law 1076 = .ok (.invokevirtual 142, 3) := by decide +kernel
theorem dL_law_1079 : decode cL_law 1079 = .ok (.aload_n 2, 1) := by decide +kernel
theorem dL_law_1080 : decode cL_law 1080 = .ok (.invokevirtual 145, 3) := by decide +kernel
theorem dL_law_1083 : decode cL_law 1083 = .ok (.if_icmp .eq 342, 3) := by decide +kernel
theorem dL_law_1086 : decode cL_law 1086 = .ok (.iconst 0, 1) := by decide +kernel
theorem dL_law_1087 : decode cL_law 1087 = .ok (.ireturn, 1) := by decide +kernel
theorem dL_law_1088 : decode cL_law 1088 = .ok (.aload_n 1, 1) := by decide +kernel
theorem dL_law_1089 : decode cL_law 1089 = .ok (.aload_n 0, 1) := by decide +kernel
theorem dL_law_1090 : decode cL_law 1090 = .ok (.iload_n 3, 1) := by decide +kernel
theorem dL_law_1091 : decode cL_law 1091 = .ok (.iconst 1, 1) := by decide +kernel
theorem dL_law_1092 : decode cL_law 1092 = .ok (.iadd, 1) := by decide +kernel
theorem dL_law_1093 : decode cL_law 1093 = .ok (.iaload, 1) := by decide +kernel
theorem dL_law_1094 : decode cL_law 1094 = .ok (.invokevirtual 146, 3) := by decide +kernel
theorem dL_law_1097 : decode cL_law 1097 = .ok (.aload_n 2, 1) := by decide +kernel
theorem dL_law_1098 : decode cL_law 1098 = .ok (.aload_n 0, 1) := by decide +kernel
theorem dL_law_1099 : decode cL_law 1099 = .ok (.iload_n 3, 1) := by decide +kernel
theorem dL_law_1100 : decode cL_law 1100 = .ok (.iconst 1, 1) := by decide +kernel
theorem dL_law_1101 : decode cL_law 1101 = .ok (.iadd, 1) := by decide +kernel
theorem dL_law_1102 : decode cL_law 1102 = .ok (.iaload, 1) := by decide +kernel
theorem dL_law_1103 : decode cL_law 1103 = .ok (.invokevirtual 149, 3) := by decide +kernel
theorem dL_law_1106 : decode cL_law 1106 = .ok (.if_icmp .eq 319, 3) := by decide +kernel
theorem dL_law_1109 : decode cL_law 1109 = .ok (.iconst 0, 1) := by decide +kernel
theorem dL_law_1110 : decode cL_law 1110 = .ok (.ireturn, 1) := by decide +kernel
theorem dL_law_1111 : decode cL_law 1111 = .ok (.aload_n 1, 1) := by decide +kernel
theorem dL_law_1112 : decode cL_law 1112 = .ok (.invokevirtual 150, 3) := by decide +kernel
theorem dL_law_1115 : decode cL_law 1115 = .ok (.aload_n 2, 1) := by decide +kernel
theorem dL_law_1116 : decode cL_law 1116 = .ok (.invokevirtual 153, 3) := by decide +kernel
theorem dL_law_1119 : decode cL_law 1119 = .ok (.if_icmp .eq 306, 3) := by decide +kernel
theorem dL_law_1122 : decode cL_law 1122 = .ok (.iconst 0, 1) := by decide +kernel
theorem dL_law_1123 : decode cL_law 1123 = .ok (.ireturn, 1) := by decide +kernel
theorem dL_law_1124 : decode cL_law 1124 = .ok (.aload_n 1, 1) := by decide +kernel
theorem dL_law_1125 : decode cL_law 1125 = .ok (.invokevirtual 154, 3) := by decide +kernel
theorem dL_law_1128 : decode cL_law 1128 = .ok (.aload_n 2, 1) := by decide +kernel
theorem dL_law_1129 : decode cL_law 1129 = .ok (.invokevirtual 157, 3) := by decide +kernel
theorem dL_law_1132 : decode cL_law 1132 = .ok (.if_icmp .eq 293, 3) := by decide +kernel
theorem dL_law_1135 : decode cL_law 1135 = .ok (.iconst 0, 1) := by decide +kernel
theorem dL_law_1136 : decode cL_law 1136 = .ok (.ireturn, 1) := by decide +kernel
theorem dL_law_1137 : decode cL_law 1137 = .ok (.aload_n 1, 1) := by decide +kernel
theorem dL_law_1138 : decode cL_law 1138 = .ok (.invokevirtual 158, 3) := by decide +kernel
theorem dL_law_1141 : decode cL_law 1141 = .ok (.aload_n 2, 1) := by decide +kernel
theorem dL_law_1142 : decode cL_law 1142 = .ok (.invokevirtual 161, 3) := by decide +kernel
theorem dL_law_1145 : decode cL_law 1145 = .ok (.if_icmp .eq 280, 3) := by decide +kernel
theorem dL_law_1148 : decode cL_law 1148 = .ok (.iconst 0, 1) := by decide +kernel
theorem dL_law_1149 : decode cL_law 1149 = .ok (.ireturn, 1) := by decide +kernel
theorem dL_law_1150 : decode cL_law 1150 = .ok (.aload_n 1, 1) := by decide +kernel
theorem dL_law_1151 : decode cL_law 1151 = .ok (.aload_n 0, 1) := by decide +kernel
theorem dL_law_1152 : decode cL_law 1152 = .ok (.iload_n 3, 1) := by decide +kernel
theorem dL_law_1153 : decode cL_law 1153 = .ok (.iconst 1, 1) := by decide +kernel
theorem dL_law_1154 : decode cL_law 1154 = .ok (.iadd, 1) := by decide +kernel
theorem dL_law_1155 : decode cL_law 1155 = .ok (.iaload, 1) := by decide +kernel
theorem dL_law_1156 : decode cL_law 1156 = .ok (.invokevirtual 162, 3) := by decide +kernel
theorem dL_law_1159 : decode cL_law 1159 = .ok (.aload_n 2, 1) := by decide +kernel
theorem dL_law_1160 : decode cL_law 1160 = .ok (.aload_n 0, 1) := by decide +kernel
theorem dL_law_1161 : decode cL_law 1161 = .ok (.iload_n 3, 1) := by decide +kernel
theorem dL_law_1162 : decode cL_law 1162 = .ok (.iconst 1, 1) := by decide +kernel
theorem dL_law_1163 : decode cL_law 1163 = .ok (.iadd, 1) := by decide +kernel
theorem dL_law_1164 : decode cL_law 1164 = .ok (.iaload, 1) := by decide +kernel
theorem dL_law_1165 : decode cL_law 1165 = .ok (.invokevirtual 165, 3) := by decide +kernel
theorem dL_law_1168 : decode cL_law 1168 = .ok (.if_icmp .eq 257, 3) := by decide +kernel
theorem dL_law_1171 : decode cL_law 1171 = .ok (.iconst 0, 1) := by decide +kernel
theorem dL_law_1172 : decode cL_law 1172 = .ok (.ireturn, 1) := by decide +kernel
theorem dL_law_1173 : decode cL_law 1173 = .ok (.aload_n 1, 1) := by decide +kernel
theorem dL_law_1174 : decode cL_law 1174 = .ok (.invokevirtual 166, 3) := by decide +kernel
theorem dL_law_1177 : decode cL_law 1177 = .ok (.aload_n 2, 1) := by decide +kernel
theorem dL_law_1178 : decode cL_law 1178 = .ok (.invokevirtual 169, 3) := by decide +kernel
theorem dL_law_1181 : decode cL_law 1181 = .ok (.if_icmp .eq 244, 3) := by decide +kernel
theorem dL_law_1184 : decode cL_law 1184 = .ok (.iconst 0, 1) := by decide +kernel
theorem dL_law_1185 : decode cL_law 1185 = .ok (.ireturn, 1) := by decide +kernel
theorem dL_law_1186 : decode cL_law 1186 = .ok (.aload_n 1, 1) := by decide +kernel
theorem dL_law_1187 : decode cL_law 1187 = .ok (.aload_n 0, 1) := by decide +kernel
theorem dL_law_1188 : decode cL_law 1188 = .ok (.iload_n 3, 1) := by decide +kernel
theorem dL_law_1189 : decode cL_law 1189 = .ok (.iconst 1, 1) := by decide +kernel
theorem dL_law_1190 : decode cL_law 1190 = .ok (.iadd, 1) := by decide +kernel
theorem dL_law_1191 : decode cL_law 1191 = .ok (.iaload, 1) := by decide +kernel
theorem dL_law_1192 : decode cL_law 1192 = .ok (.aload_n 0, 1) := by decide +kernel
theorem dL_law_1193 : decode cL_law 1193 = .ok (.iload_n 3, 1) := by decide +kernel
theorem dL_law_1194 : decode cL_law 1194 = .ok (.iconst 2, 1) := by decide +kernel
theorem dL_law_1195 : decode cL_law 1195 = .ok (.iadd, 1) := by decide +kernel
theorem dL_law_1196 : decode cL_law 1196 = .ok (.iaload, 1) := by decide +kernel
theorem dL_law_1197 : decode cL_law 1197 = .ok (.invokevirtual 170, 3) := by decide +kernel
theorem dL_law_1200 : decode cL_law 1200 = .ok (.aload_n 2, 1) := by decide +kernel
theorem dL_law_1201 : decode cL_law 1201 = .ok (.aload_n 0, 1) := by decide +kernel
theorem dL_law_1202 : decode cL_law 1202 = .ok (.iload_n 3, 1) := by decide +kernel
theorem dL_law_1203 : decode cL_law 1203 = .ok (.iconst 1, 1) := by decide +kernel
theorem dL_law_1204 : decode cL_law 1204 = .ok (.iadd, 1) := by decide +kernel
theorem dL_law_1205 : decode cL_law 1205 = .ok (.iaload, 1) := by decide +kernel
theorem dL_law_1206 : decode cL_law 1206 = .ok (.aload_n 0, 1) := by decide +kernel
theorem dL_law_1207 : decode cL_law 1207 = .ok (.iload_n 3, 1) := by decide +kernel
theorem dL_law_1208 : decode cL_law 1208 = .ok (.iconst 2, 1) := by decide +kernel
theorem dL_law_1209 : decode cL_law 1209 = .ok (.iadd, 1) := by decide +kernel
theorem dL_law_1210 : decode cL_law 1210 = .ok (.iaload, 1) := by decide +kernel
theorem dL_law_1211 : decode cL_law 1211 = .ok (.invokevirtual 173, 3) := by decide +kernel
theorem dL_law_1214 : decode cL_law 1214 = .ok (.if_icmp .eq 211, 3) := by decide +kernel
theorem dL_law_1217 : decode cL_law 1217 = .ok (.iconst 0, 1) := by decide +kernel
theorem dL_law_1218 : decode cL_law 1218 = .ok (.ireturn, 1) := by decide +kernel
theorem dL_law_1219 : decode cL_law 1219 = .ok (.aload_n 1, 1) := by decide +kernel
theorem dL_law_1220 : decode cL_law 1220 = .ok (.aload_n 0, 1) := by decide +kernel
theorem dL_law_1221 : decode cL_law 1221 = .ok (.iload_n 3, 1) := by decide +kernel
theorem dL_law_1222 : decode cL_law 1222 = .ok (.iconst 1, 1) := by decide +kernel
theorem dL_law_1223 : decode cL_law 1223 = .ok (.iadd, 1) := by decide +kernel
theorem dL_law_1224 : decode cL_law 1224 = .ok (.iaload, 1) := by decide +kernel
theorem dL_law_1225 : decode cL_law 1225 = .ok (.invokevirtual 174, 3) := by decide +kernel
theorem dL_law_1228 : decode cL_law 1228 = .ok (.aload_n 2, 1) := by decide +kernel
theorem dL_law_1229 : decode cL_law 1229 = .ok (.aload_n 0, 1) := by decide +kernel
theorem dL_law_1230 : decode cL_law 1230 = .ok (.iload_n 3, 1) := by decide +kernel
theorem dL_law_1231 : decode cL_law 1231 = .ok (.iconst 1, 1) := by decide +kernel
theorem dL_law_1232 : decode cL_law 1232 = .ok (.iadd, 1) := by decide +kernel
theorem dL_law_1233 : decode cL_law 1233 = .ok (.iaload, 1) := by decide +kernel
theorem dL_law_1234 : decode cL_law 1234 = .ok (.invokevirtual 177, 3) := by decide +kernel
theorem dL_law_1237 : decode cL_law 1237 = .ok (.if_icmp .eq 188, 3) := by decide +kernel
theorem dL_law_1240 : decode cL_law 1240 = .ok (.iconst 0, 1) := by decide +kernel
theorem dL_law_1241 : decode cL_law 1241 = .ok (.ireturn, 1) := by decide +kernel
theorem dL_law_1242 : decode cL_law 1242 = .ok (.aload_n 1, 1) := by decide +kernel
theorem dL_law_1243 : decode cL_law 1243 = .ok (.aload_n 0, 1) := by decide +kernel
theorem dL_law_1244 : decode cL_law 1244 = .ok (.iload_n 3, 1) := by decide +kernel
theorem dL_law_1245 : decode cL_law 1245 = .ok (.iconst 1, 1) := by decide +kernel
theorem dL_law_1246 : decode cL_law 1246 = .ok (.iadd, 1) := by decide +kernel
theorem dL_law_1247 : decode cL_law 1247 = .ok (.iaload, 1) := by decide +kernel
theorem dL_law_1248 : decode cL_law 1248 = .ok (.invokevirtual 178, 3) := by decide +kernel
theorem dL_law_1251 : decode cL_law 1251 = .ok (.aload_n 2, 1) := by decide +kernel
theorem dL_law_1252 : decode cL_law 1252 = .ok (.aload_n 0, 1) := by decide +kernel
theorem dL_law_1253 : decode cL_law 1253 = .ok (.iload_n 3, 1) := by decide +kernel
theorem dL_law_1254 : decode cL_law 1254 = .ok (.iconst 1, 1) := by decide +kernel
theorem dL_law_1255 : decode cL_law 1255 = .ok (.iadd, 1) := by decide +kernel
theorem dL_law_1256 : decode cL_law 1256 = .ok (.iaload, 1) := by decide +kernel
theorem dL_law_1257 : decode cL_law 1257 = .ok (.invokevirtual 181, 3) := by decide +kernel
theorem dL_law_1260 : decode cL_law 1260 = .ok (.if_icmp .eq 165, 3) := by decide +kernel
theorem dL_law_1263 : decode cL_law 1263 = .ok (.iconst 0, 1) := by decide +kernel
theorem dL_law_1264 : decode cL_law 1264 = .ok (.ireturn, 1) := by decide +kernel
theorem dL_law_1265 : decode cL_law 1265 = .ok (.aload_n 1, 1) := by decide +kernel
theorem dL_law_1266 : decode cL_law 1266 = .ok (.aload_n 0, 1) := by decide +kernel
theorem dL_law_1267 : decode cL_law 1267 = .ok (.iload_n 3, 1) := by decide +kernel
theorem dL_law_1268 : decode cL_law 1268 = .ok (.iconst 1, 1) := by decide +kernel
theorem dL_law_1269 : decode cL_law 1269 = .ok (.iadd, 1) := by decide +kernel
theorem dL_law_1270 : decode cL_law 1270 = .ok (.iaload, 1) := by decide +kernel
theorem dL_law_1271 : decode cL_law 1271 = .ok (.invokevirtual 182, 3) := by decide +kernel
theorem dL_law_1274 : decode cL_law 1274 = .ok (.aload_n 2, 1) := by decide +kernel
theorem dL_law_1275 : decode cL_law 1275 = .ok (.aload_n 0, 1) := by decide +kernel
theorem dL_law_1276 : decode cL_law 1276 = .ok (.iload_n 3, 1) := by decide +kernel
theorem dL_law_1277 : decode cL_law 1277 = .ok (.iconst 1, 1) := by decide +kernel
theorem dL_law_1278 : decode cL_law 1278 = .ok (.iadd, 1) := by decide +kernel
theorem dL_law_1279 : decode cL_law 1279 = .ok (.iaload, 1) := by decide +kernel
theorem dL_law_1280 : decode cL_law 1280 = .ok (.invokevirtual 185, 3) := by decide +kernel
theorem dL_law_1283 : decode cL_law 1283 = .ok (.if_icmp .eq 142, 3) := by decide +kernel
theorem dL_law_1286 : decode cL_law 1286 = .ok (.iconst 0, 1) := by decide +kernel
theorem dL_law_1287 : decode cL_law 1287 = .ok (.ireturn, 1) := by decide +kernel
theorem dL_law_1288 : decode cL_law 1288 = .ok (.aload_n 1, 1) := by decide +kernel
theorem dL_law_1289 : decode cL_law 1289 = .ok (.invokevirtual 186, 3) := by decide +kernel
theorem dL_law_1292 : decode cL_law 1292 = .ok (.aload_n 2, 1) := by decide +kernel
theorem dL_law_1293 : decode cL_law 1293 = .ok (.invokevirtual 189, 3) := by decide +kernel
theorem dL_law_1296 : decode cL_law 1296 = .ok (.if_icmp .eq 129, 3) := by decide +kernel
theorem dL_law_1299 : decode cL_law 1299 = .ok (.iconst 0, 1) := by decide +kernel
theorem dL_law_1300 : decode cL_law 1300 = .ok (.ireturn, 1) := by decide +kernel
theorem dL_law_1301 : decode cL_law 1301 = .ok (.aload_n 1, 1) := by decide +kernel
theorem dL_law_1302 : decode cL_law 1302 = .ok (.aload_n 0, 1) := by decide +kernel
theorem dL_law_1303 : decode cL_law 1303 = .ok (.iload_n 3, 1) := by decide +kernel
theorem dL_law_1304 : decode cL_law 1304 = .ok (.iconst 1, 1) := by decide +kernel
theorem dL_law_1305 : decode cL_law 1305 = .ok (.iadd, 1) := by decide +kernel
theorem dL_law_1306 : decode cL_law 1306 = .ok (.iaload, 1) := by decide +kernel
theorem dL_law_1307 : decode cL_law 1307 = .ok (.invokevirtual 190, 3) := by decide +kernel
theorem dL_law_1310 : decode cL_law 1310 = .ok (.aload_n 2, 1) := by decide +kernel
theorem dL_law_1311 : decode cL_law 1311 = .ok (.aload_n 0, 1) := by decide +kernel
theorem dL_law_1312 : decode cL_law 1312 = .ok (.iload_n 3, 1) := by decide +kernel
theorem dL_law_1313 : decode cL_law 1313 = .ok (.iconst 1, 1) := by decide +kernel
theorem dL_law_1314 : decode cL_law 1314 = .ok (.iadd, 1) := by decide +kernel
theorem dL_law_1315 : decode cL_law 1315 = .ok (.iaload, 1) := by decide +kernel
theorem dL_law_1316 : decode cL_law 1316 = .ok (.invokevirtual 193, 3) := by decide +kernel
theorem dL_law_1319 : decode cL_law 1319 = .ok (.if_icmp .eq 106, 3) := by decide +kernel
theorem dL_law_1322 : decode cL_law 1322 = .ok (.iconst 0, 1) := by decide +kernel
theorem dL_law_1323 : decode cL_law 1323 = .ok (.ireturn, 1) := by decide +kernel
theorem dL_law_1324 : decode cL_law 1324 = .ok (.aload_n 1, 1) := by decide +kernel
theorem dL_law_1325 : decode cL_law 1325 = .ok (.invokevirtual 194, 3) := by decide +kernel
theorem dL_law_1328 : decode cL_law 1328 = .ok (.aload_n 2, 1) := by decide +kernel
theorem dL_law_1329 : decode cL_law 1329 = .ok (.invokevirtual 197, 3) := by decide +kernel
theorem dL_law_1332 : decode cL_law 1332 = .ok (.if_icmp .eq 93, 3) := by decide +kernel
theorem dL_law_1335 : decode cL_law 1335 = .ok (.iconst 0, 1) := by decide +kernel
theorem dL_law_1336 : decode cL_law 1336 = .ok (.ireturn, 1) := by decide +kernel
theorem dL_law_1337 : decode cL_law 1337 = .ok (.aload_n 1, 1) := by decide +kernel
theorem dL_law_1338 : decode cL_law 1338 = .ok (.invokevirtual 198, 3) := by decide +kernel
theorem dL_law_1341 : decode cL_law 1341 = .ok (.aload_n 2, 1) := by decide +kernel
theorem dL_law_1342 : decode cL_law 1342 = .ok (.invokevirtual 201, 3) := by decide +kernel
theorem dL_law_1345 : decode cL_law 1345 = .ok (.if_icmp .eq 80, 3) := by decide +kernel
theorem dL_law_1348 : decode cL_law 1348 = .ok (.iconst 0, 1) := by decide +kernel
theorem dL_law_1349 : decode cL_law 1349 = .ok (.ireturn, 1) := by decide +kernel
theorem dL_law_1350 : decode cL_law 1350 = .ok (.aload_n 1, 1) := by decide +kernel
theorem dL_law_1351 : decode cL_law 1351 = .ok (.aload_n 0, 1) := by decide +kernel
theorem dL_law_1352 : decode cL_law 1352 = .ok (.iload_n 3, 1) := by decide +kernel
theorem dL_law_1353 : decode cL_law 1353 = .ok (.iconst 1, 1) := by decide +kernel
theorem dL_law_1354 : decode cL_law 1354 = .ok (.iadd, 1) := by decide +kernel
theorem dL_law_1355 : decode cL_law 1355 = .ok (.iaload, 1) := by decide +kernel
theorem dL_law_1356 : decode cL_law 1356 = .ok (.invokevirtual 202, 3) := by decide +kernel
theorem dL_law_1359 : decode cL_law 1359 = .ok (.aload_n 2, 1) := by decide +kernel
theorem dL_law_1360 : decode cL_law 1360 = .ok (.aload_n 0, 1) := by decide +kernel
theorem dL_law_1361 : decode cL_law 1361 = .ok (.iload_n 3, 1) := by decide +kernel
theorem dL_law_1362 : decode cL_law 1362 = .ok (.iconst 1, 1) := by decide +kernel
theorem dL_law_1363 : decode cL_law 1363 = .ok (.iadd, 1) := by decide +kernel
theorem dL_law_1364 : decode cL_law 1364 = .ok (.iaload, 1) := by decide +kernel
theorem dL_law_1365 : decode cL_law 1365 = .ok (.invokevirtual 205, 3) := by decide +kernel
theorem dL_law_1368 : decode cL_law 1368 = .ok (.if_icmp .eq 57, 3) := by decide +kernel
theorem dL_law_1371 : decode cL_law 1371 = .ok (.iconst 0, 1) := by decide +kernel
theorem dL_law_1372 : decode cL_law 1372 = .ok (.ireturn, 1) := by decide +kernel
theorem dL_law_1373 : decode cL_law 1373 = .ok (.aload_n 1, 1) := by decide +kernel
theorem dL_law_1374 : decode cL_law 1374 = .ok (.invokevirtual 206, 3) := by decide +kernel
theorem dL_law_1377 : decode cL_law 1377 = .ok (.aload_n 2, 1) := by decide +kernel
theorem dL_law_1378 : decode cL_law 1378 = .ok (.invokevirtual 209, 3) := by decide +kernel
theorem dL_law_1381 : decode cL_law 1381 = .ok (.if_icmp .eq 44, 3) := by decide +kernel
theorem dL_law_1384 : decode cL_law 1384 = .ok (.iconst 0, 1) := by decide +kernel
theorem dL_law_1385 : decode cL_law 1385 = .ok (.ireturn, 1) := by decide +kernel
theorem dL_law_1386 : decode cL_law 1386 = .ok (.aload_n 1, 1) := by decide +kernel
theorem dL_law_1387 : decode cL_law 1387 = .ok (.invokevirtual 210, 3) := by decide +kernel
theorem dL_law_1390 : decode cL_law 1390 = .ok (.aload_n 2, 1) := by decide +kernel
theorem dL_law_1391 : decode cL_law 1391 = .ok (.invokevirtual 213, 3) := by decide +kernel
theorem dL_law_1394 : decode cL_law 1394 = .ok (.if_icmp .eq 31, 3) := by decide +kernel
theorem dL_law_1397 : decode cL_law 1397 = .ok (.iconst 0, 1) := by decide +kernel
theorem dL_law_1398 : decode cL_law 1398 = .ok (.ireturn, 1) := by decide +kernel
theorem dL_law_1399 : decode cL_law 1399 = .ok (.aload_n 1, 1) := by decide +kernel
theorem dL_law_1400 : decode cL_law 1400 = .ok (.invokevirtual 214, 3) := by decide +kernel
theorem dL_law_1403 : decode cL_law 1403 = .ok (.aload_n 2, 1) := by decide +kernel
theorem dL_law_1404 : decode cL_law 1404 = .ok (.invokevirtual 217, 3) := by decide +kernel
theorem dL_law_1407 : decode cL_law 1407 = .ok (.if_icmp .eq 18, 3) := by decide +kernel
theorem dL_law_1410 : decode cL_law 1410 = .ok (.iconst 0, 1) := by decide +kernel
theorem dL_law_1411 : decode cL_law 1411 = .ok (.ireturn, 1) := by decide +kernel
theorem dL_law_1412 : decode cL_law 1412 = .ok (.aload_n 1, 1) := by decide +kernel
theorem dL_law_1413 : decode cL_law 1413 = .ok (.invokevirtual 218, 3) := by decide +kernel
theorem dL_law_1416 : decode cL_law 1416 = .ok (.aload_n 2, 1) := by decide +kernel
theorem dL_law_1417 : decode cL_law 1417 = .ok (.invokevirtual 221, 3) := by decide +kernel
theorem dL_law_1420 : decode cL_law 1420 = .ok (.if_icmp .eq 5, 3) := by decide +kernel
theorem dL_law_1423 : decode cL_law 1423 = .ok (.iconst 0, 1) := by decide +kernel
theorem dL_law_1424 : decode cL_law 1424 = .ok (.ireturn, 1) := by decide +kernel
theorem dL_law_1425 : decode cL_law 1425 = .ok (.iinc 3 5, 3) := by decide +kernel
theorem dL_law_1428 : decode cL_law 1428 = .ok (.goto (-1410), 3) := by decide +kernel
theorem dL_law_1431 : decode cL_law 1431 = .ok (.iconst 1, 1) := by decide +kernel
theorem dL_law_1432 : decode cL_law 1432 = .ok (.ireturn, 1) := by decide +kernel
