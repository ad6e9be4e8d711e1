theorem dX10_into_9 : decode cX10_into 9 = .ok (.aload_n 1, 1) := by decide +kernel
theorem dX10_into_10 : decode cX10_into 10 = .ok (.iload_n 2, 1) := by decide +kernel
theorem dX10_into_11 : decode cX10_into 11 = .ok (.aload_n 0, 1) := by decide +kernel
theorem dX10_into_12 : decode cX10_into 12 = .ok (.getfield 117, 3) := by decide +kernel
theorem dX10_into_15 : decode cX10_into 15 = .ok (.iastore, 1) := by decide +kernel
theorem dX10_into_16 : decode cX10_into 16 = .ok (.iload 5, 2) := by decide +kernel
theorem dX10_into_18 : decode cX10_into 18 = .ok (.ireturn, 1) := by decide +kernel
theorem dX10_takeTown_0 : decode cX10_takeTown 0 = .ok (.aload_n 0, 1) := by decide +kernel
theorem dX10_takeTown_1 : decode cX10_takeTown 1 = .ok (.aload_n 0, 1) := by decide +kernel
theorem dX10_takeTown_2 : decode cX10_takeTown 2 = .ok (.getfield 26, 3) := by decide +kernel
theorem dX10_takeTown_5 : decode cX10_takeTown 5 = .ok (.iconst 0, 1) := by decide +kernel
theorem dX10_takeTown_6 : decode cX10_takeTown 6 = .ok (.iconst 1, 1) := by decide +kernel
theorem dX10_takeTown_7 : decode cX10_takeTown 7 = .ok (.bipush 9, 2) := by decide +kernel
theorem dX10_takeTown_9 : decode cX10_takeTown 9 = .ok (.invokevirtual 124, 3) := by decide +kernel
theorem dX10_takeTown_12 : decode cX10_takeTown 12 = .ok (.istore_n 1, 1) := by decide +kernel
theorem dX10_takeTown_13 : decode cX10_takeTown 13 = .ok (.iload_n 1, 1) := by decide +kernel
theorem dX10_takeTown_14 : decode cX10_takeTown 14 = .ok (.ifCond .le 7, 3) := by decide +kernel
theorem dX10_takeTown_17 : decode cX10_takeTown 17 = .ok (.iload_n 1, 1) := by decide +kernel
theorem dX10_takeTown_18 : decode cX10_takeTown 18 = .ok (.goto 15, 3) := by decide +kernel
theorem dX10_takeTown_21 : decode cX10_takeTown 21 = .ok (.aload_n 0, 1) := by decide +kernel
theorem dX10_takeTown_22 : decode cX10_takeTown 22 = .ok (.aload_n 0, 1) := by decide +kernel
theorem dX10_takeTown_23 : decode cX10_takeTown 23 = .ok (.getfield 26, 3) := by decide +kernel
theorem dX10_takeTown_26 : decode cX10_takeTown 26 = .ok (.iconst 1, 1) := by decide +kernel
theorem dX10_takeTown_27 : decode cX10_takeTown 27 = .ok (.iconst 0, 1) := by decide +kernel
theorem dX10_takeTown_28 : decode cX10_takeTown 28 = .ok (.bipush 100, 2) := by decide +kernel
theorem dX10_takeTown_30 : decode cX10_takeTown 30 = .ok (.invokevirtual 124, 3) := by decide +kernel
theorem dX10_takeTown_33 : decode cX10_takeTown 33 = .ok (.ireturn, 1) := by decide +kernel
theorem dX10_takeCar_0 : decode cX10_takeCar 0 = .ok (.aload_n 0, 1) := by decide +kernel
theorem dX10_takeCar_1 : decode cX10_takeCar 1 = .ok (.getfield 128, 3) := by decide +kernel
theorem dX10_takeCar_4 : decode cX10_takeCar 4 = .ok (.istore_n 1, 1) := by decide +kernel
theorem dX10_takeCar_5 : decode cX10_takeCar 5 = .ok (.aload_n 0, 1) := by decide +kernel
theorem dX10_takeCar_6 : decode cX10_takeCar 6 = .ok (.dup, 1) := by decide +kernel
theorem dX10_takeCar_7 : decode cX10_takeCar 7 = .ok (.getfield 128, 3) := by decide +kernel
theorem dX10_takeCar_10 : decode cX10_takeCar 10 = .ok (.iconst 1, 1) := by decide +kernel
theorem dX10_takeCar_11 : decode cX10_takeCar 11 = .ok (.iadd, 1) := by decide +kernel
theorem dX10_takeCar_12 : decode cX10_takeCar 12 = .ok (.putfield 128, 3) := by decide +kernel
theorem dX10_takeCar_15 : decode cX10_takeCar 15 = .ok (.aload_n 0, 1) := by decide +kernel
theorem dX10_takeCar_16 : decode cX10_takeCar 16 = .ok (.getfield 38, 3) := by decide +kernel
theorem dX10_takeCar_19 : decode cX10_takeCar 19 = .ok (.iload_n 1, 1) := by decide +kernel
theorem dX10_takeCar_20 : decode cX10_takeCar 20 = .ok (.iconst (-1), 1) := by decide +kernel
theorem dX10_takeCar_21 : decode cX10_takeCar 21 = .ok (.iastore, 1) := by decide +kernel
theorem dX10_takeCar_22 : decode cX10_takeCar 22 = .ok (.aload_n 0, 1) := by decide +kernel
theorem dX10_takeCar_23 : decode cX10_takeCar 23 = .ok (.aload_n 0, 1) := by decide +kernel
theorem dX10_takeCar_24 : decode cX10_takeCar 24 = .ok (.getfield 29, 3) := by decide +kernel
theorem dX10_takeCar_27 : decode cX10_takeCar 27 = .ok (.iload_n 1, 1) := by decide +kernel
theorem dX10_takeCar_28 : decode cX10_takeCar 28 = .ok (.iconst 0, 1) := by decide +kernel
theorem dX10_takeCar_29 : decode cX10_takeCar 29 = .ok (.aload_n 0, 1) := by decide +kernel
theorem dX10_takeCar_30 : decode cX10_takeCar 30 = .ok (.getfield 26, 3) := by decide +kernel
theorem dX10_takeCar_33 : decode cX10_takeCar 33 = .ok (.iconst 0, 1) := by decide +kernel
theorem dX10_takeCar_34 : decode cX10_takeCar 34 = .ok (.iaload, 1) := by decide +kernel
theorem dX10_takeCar_35 : decode cX10_takeCar 35 = .ok (.iconst 1, 1) := by decide +kernel
theorem dX10_takeCar_36 : decode cX10_takeCar 36 = .ok (.isub, 1) := by decide +kernel
theorem dX10_takeCar_37 : decode cX10_takeCar 37 = .ok (.invokevirtual 124, 3) := by decide +kernel
theorem dX10_takeCar_40 : decode cX10_takeCar 40 = .ok (.istore_n 2, 1) := by decide +kernel
theorem dX10_takeCar_41 : decode cX10_takeCar 41 = .ok (.iload_n 2, 1) := by decide +kernel
theorem dX10_takeCar_42 : decode cX10_takeCar 42 = .ok (.ifCond .le 7, 3) := by decide +kernel
theorem dX10_takeCar_45 : decode cX10_takeCar 45 = .ok (.iload_n 2, 1) := by decide +kernel
theorem dX10_takeCar_46 : decode cX10_takeCar 46 = .ok (.goto 10, 3) := by decide +kernel
theorem dX10_takeCar_49 : decode cX10_takeCar 49 = .ok (.aload_n 0, 1) := by decide +kernel
theorem dX10_takeCar_50 : decode cX10_takeCar 50 = .ok (.iconst 0, 1) := by decide +kernel
theorem dX10_takeCar_51 : decode cX10_takeCar 51 = .ok (.ldc 131, 2) := by decide +kernel
theorem dX10_takeCar_53 : decode cX10_takeCar 53 = .ok (.invokevirtual 121, 3) := by decide +kernel
theorem dX10_takeCar_56 : decode cX10_takeCar 56 = .ok (.istore_n 2, 1) := by decide +kernel
theorem dX10_takeCar_57 : decode cX10_takeCar 57 = .ok (.iload_n 2, 1) := by decide +kernel
theorem dX10_takeCar_58 : decode cX10_takeCar 58 = .ok (.ifCond .le 5, 3) := by decide +kernel
theorem dX10_takeCar_61 : decode cX10_takeCar 61 = .ok (.iload_n 2, 1) := by decide +kernel
theorem dX10_takeCar_62 : decode cX10_takeCar 62 = .ok (.ireturn, 1) := by decide +kernel
theorem dX10_takeCar_63 : decode cX10_takeCar 63 = .ok (.aload_n 0, 1) := by decide +kernel
theorem dX10_takeCar_64 : decode cX10_takeCar 64 = .ok (.getfield 35, 3) := by decide +kernel
theorem dX10_takeCar_67 : decode cX10_takeCar 67 = .ok (.iload_n 1, 1) := by decide +kernel
theorem dX10_takeCar_68 : decode cX10_takeCar 68 = .ok (.aload_n 0, 1) := by decide +kernel
theorem dX10_takeCar_69 : decode cX10_takeCar 69 = .ok (.getfield 99, 3) := by decide +kernel
theorem dX10_takeCar_72 : decode cX10_takeCar 72 = .ok (.aload_n 0, 1) := by decide +kernel
theorem dX10_takeCar_73 : decode cX10_takeCar 73 = .ok (.getfield 114, 3) := by decide +kernel
theorem dX10_takeCar_76 : decode cX10_takeCar 76 = .ok (.isub, 1) := by decide +kernel
theorem dX10_takeCar_77 : decode cX10_takeCar 77 = .ok (.iastore, 1) := by decide +kernel
theorem dX10_takeCar_78 : decode cX10_takeCar 78 = .ok (.iconst 0, 1) := by decide +kernel
theorem dX10_takeCar_79 : decode cX10_takeCar 79 = .ok (.istore_n 3, 1) := by decide +kernel
theorem dX10_takeCar_80 : decode cX10_takeCar 80 = .ok (.iload_n 3, 1) := by decide +kernel
theorem dX10_takeCar_81 : decode cX10_takeCar 81 = .ok (.aload_n 0, 1) := by decide +kernel
theorem dX10_takeCar_82 : decode cX10_takeCar 82 = .ok (.getfield 35, 3) := by decide +kernel
theorem dX10_takeCar_85 : decode cX10_takeCar 85 = .ok (.iload_n 1, 1) := by decide +kernel
theorem dX10_takeCar_86 : decode cX10_takeCar 86 = .ok (.iaload, 1) := by decide +kernel
theorem dX10_takeCar_87 : decode cX10_takeCar 87 = .ok (.if_icmp .ge 67, 3) := by decide +kernel
theorem dX10_takeCar_90 : decode cX10_takeCar 90 = .ok (.aload_n 0, 1) := by decide +kernel
theorem dX10_takeCar_91 : decode cX10_takeCar 91 = .ok (.getfield 19, 3) := by decide +kernel
theorem dX10_takeCar_94 : decode cX10_takeCar 94 = .ok (.aload_n 0, 1) := by decide +kernel
theorem dX10_takeCar_95 : decode cX10_takeCar 95 = .ok (.getfield 114, 3) := by decide +kernel
theorem dX10_takeCar_98 : decode cX10_takeCar 98 = .ok (.iload_n 3, 1) := by decide +kernel
theorem dX10_takeCar_99 : decode cX10_takeCar 99 = .ok (.iadd, 1) := by decide +kernel
theorem dX10_takeCar_100 : decode cX10_takeCar 100 = .ok (.iaload, 1) := by decide +kernel
theorem dX10_takeCar_101 : decode cX10_takeCar 101 = .ok (.bipush 49, 2) := by decide +kernel
theorem dX10_takeCar_103 : decode cX10_takeCar 103 = .ok (.isub, 1) := by decide +kernel
theorem dX10_takeCar_104 : decode cX10_takeCar 104 = .ok (.istore 4, 2) := by decide +kernel
theorem dX10_takeCar_106 : decode cX10_takeCar 106 = .ok (.iload 4, 2) := by decide +kernel
theorem dX10_takeCar_108 : decode cX10_takeCar 108 = .ok (.i2l, 1) := by decide +kernel
theorem dX10_takeCar_109 : decode cX10_takeCar 109 = .ok (.lconst 0, 1) := by decide +kernel
theorem dX10_takeCar_110 : decode cX10_takeCar 110 = .ok (.aload_n 0, 1) := by decide +kernel
theorem dX10_takeCar_111 : decode cX10_takeCar 111 = .ok (.getfield 26, 3) := by decide +kernel
theorem dX10_takeCar_114 : decode cX10_takeCar 114 = .ok (.iconst 0, 1) := by decide +kernel
theorem dX10_takeCar_115 : decode cX10_takeCar 115 = .ok (.iaload, 1) := by decide +kernel
theorem dX10_takeCar_116 : decode cX10_takeCar 116 = .ok (.iconst 1, 1) := by decide +kernel
theorem dX10_takeCar_117 : decode cX10_takeCar 117 = .ok (.isub, 1) := by decide +kernel
theorem dX10_takeCar_118 : decode cX10_takeCar 118 = .ok (.i2l, 1) := by decide +kernel
theorem dX10_takeCar_119 : decode cX10_takeCar 119 = .ok (.invokestatic 81, 3) := by decide +kernel
theorem dX10_takeCar_122 : decode cX10_takeCar 122 = .ok (.ifCond .ne 13, 3) := by decide +kernel
theorem dX10_takeCar_125 : decode cX10_takeCar 125 = .ok (.aload_n 0, 1) := by decide +kernel
theorem dX10_takeCar_126 : decode cX10_takeCar 126 = .ok (.iconst 2, 1) := by decide +kernel
theorem dX10_takeCar_127 : decode cX10_takeCar 127 = .ok (.aload_n 0, 1) := by decide +kernel
theorem dX10_takeCar_128 : decode cX10_takeCar 128 = .ok (.getfield 114, 3) := by decide +kernel
theorem dX10_takeCar_131 : decode cX10_takeCar 131 = .ok (.invokevirtual 110, 3) := by decide +kernel
theorem dX10_takeCar_134 : decode cX10_takeCar 134 = .ok (.ireturn, 1) := by decide +kernel
theorem dX10_takeCar_135 : decode cX10_takeCar 135 = .ok (.aload_n 0, 1) := by decide +kernel
theorem dX10_takeCar_136 : decode cX10_takeCar 136 = .ok (.getfield 32, 3) := by decide +kernel
theorem dX10_takeCar_139 : decode cX10_takeCar 139 = .ok (.bipush 6, 2) := by decide +kernel
theorem dX10_takeCar_141 : decode cX10_takeCar 141 = .ok (.iload_n 1, 1) := by decide +kernel
theorem dX10_takeCar_142 : decode cX10_takeCar 142 = .ok (.imul, 1) := by decide +kernel
theorem dX10_takeCar_143 : decode cX10_takeCar 143 = .ok (.iload_n 3, 1) := by decide +kernel
theorem dX10_takeCar_144 : decode cX10_takeCar 144 = .ok (.iadd, 1) := by decide +kernel
theorem dX10_takeCar_145 : decode cX10_takeCar 145 = .ok (.iload 4, 2) := by decide +kernel
theorem dX10_takeCar_147 : decode cX10_takeCar 147 = .ok (.iastore, 1) := by decide +kernel
theorem dX10_takeCar_148 : decode cX10_takeCar 148 = .ok (.iinc 3 1, 3) := by decide +kernel
theorem dX10_takeCar_151 : decode cX10_takeCar 151 = .ok (.goto (-71), 3) := by decide +kernel
theorem dX10_takeCar_154 : decode cX10_takeCar 154 = .ok (.iconst 0, 1) := by decide +kernel
theorem dX10_takeCar_155 : decode cX10_takeCar 155 = .ok (.ireturn, 1) := by decide +kernel
theorem dX10_takeFollows_0 : decode cX10_takeFollows 0 = .ok (.aload_n 0, 1) := by decide +kernel
theorem dX10_takeFollows_1 : decode cX10_takeFollows 1 = .ok (.iconst 0, 1) := by decide +kernel
theorem dX10_takeFollows_2 : decode cX10_takeFollows 2 = .ok (.aload_n 0, 1) := by decide +kernel
theorem dX10_takeFollows_3 : decode cX10_takeFollows 3 = .ok (.getfield 128, 3) := by decide +kernel
theorem dX10_takeFollows_6 : decode cX10_takeFollows 6 = .ok (.iconst 1, 1) := by decide +kernel
theorem dX10_takeFollows_7 : decode cX10_takeFollows 7 = .ok (.isub, 1) := by decide +kernel
theorem dX10_takeFollows_8 : decode cX10_takeFollows 8 = .ok (.invokevirtual 121, 3) := by decide +kernel
theorem dX10_takeFollows_11 : decode cX10_takeFollows 11 = .ok (.istore_n 1, 1) := by decide +kernel
theorem dX10_takeFollows_12 : decode cX10_takeFollows 12 = .ok (.iload_n 1, 1) := by decide +kernel
theorem dX10_takeFollows_13 : decode cX10_takeFollows 13 = .ok (.ifCond .le 5, 3) := by decide +kernel
theorem dX10_takeFollows_16 : decode cX10_takeFollows 16 = .ok (.iload_n 1, 1) := by decide +kernel
theorem dX10_takeFollows_17 : decode cX10_takeFollows 17 = .ok (.ireturn, 1) := by decide +kernel
theorem dX10_takeFollows_18 : decode cX10_takeFollows 18 = .ok (.aload_n 0, 1) := by decide +kernel
theorem dX10_takeFollows_19 : decode cX10_takeFollows 19 = .ok (.getfield 117, 3) := by decide +kernel
theorem dX10_takeFollows_22 : decode cX10_takeFollows 22 = .ok (.istore_n 2, 1) := by decide +kernel
theorem dX10_takeFollows_23 : decode cX10_takeFollows 23 = .ok (.aload_n 0, 1) := by decide +kernel
theorem dX10_takeFollows_24 : decode cX10_takeFollows 24 = .ok (.getfield 38, 3) := by decide +kernel
theorem dX10_takeFollows_27 : decode cX10_takeFollows 27 = .ok (.iload_n 2, 1) := by decide +kernel
theorem dX10_takeFollows_28 : decode cX10_takeFollows 28 = .ok (.iaload, 1) := by decide +kernel
theorem dX10_takeFollows_29 : decode cX10_takeFollows 29 = .ok (.ifCond .lt 13, 3) := by decide +kernel
theorem dX10_takeFollows_32 : decode cX10_takeFollows 32 = .ok (.aload_n 0, 1) := by decide +kernel
theorem dX10_takeFollows_33 : decode cX10_takeFollows 33 = .ok (.iconst 4, 1) := by decide +kernel
theorem dX10_takeFollows_34 : decode cX10_takeFollows 34 = .ok (.aload_n 0, 1) := by decide +kernel
theorem dX10_takeFollows_35 : decode cX10_takeFollows 35 = .ok (.getfield 114, 3) := by decide +kernel
theorem dX10_takeFollows_38 : decode cX10_takeFollows 38 = .ok (.invokevirtual 110, 3) := by decide +kernel
theorem dX10_takeFollows_41 : decode cX10_takeFollows 41 = .ok (.ireturn, 1) := by decide +kernel
theorem dX10_takeFollows_42 : decode cX10_takeFollows 42 = .ok (.aload_n 0, 1) := by decide +kernel
theorem dX10_takeFollows_43 : decode cX10_takeFollows 43 = .ok (.iconst 0, 1) := by decide +kernel
theorem dX10_takeFollows_44 : decode cX10_takeFollows 44 = .ok (.aload_n 0, 1) := by decide +kernel
theorem dX10_takeFollows_45 : decode cX10_takeFollows 45 = .ok (.getfield 128, 3) := by decide +kernel
theorem dX10_takeFollows_48 : decode cX10_takeFollows 48 = .ok (.iconst 1, 1) := by decide +kernel
theorem dX10_takeFollows_49 : decode cX10_takeFollows 49 = .ok (.isub, 1) := by decide +kernel
theorem dX10_takeFollows_50 : decode cX10_takeFollows 50 = .ok (.invokevirtual 121, 3) := by decide +kernel
theorem dX10_takeFollows_53 : decode cX10_takeFollows 53 = .ok (.istore_n 1, 1) := by decide +kernel
theorem dX10_takeFollows_54 : decode cX10_takeFollows 54 = .ok (.iload_n 1, 1) := by decide +kernel
theorem dX10_takeFollows_55 : decode cX10_takeFollows 55 = .ok (.ifCond .ne 21, 3) := by decide +kernel
theorem dX10_takeFollows_58 : decode cX10_takeFollows 58 = .ok (.aload_n 0, 1) := by decide +kernel
theorem dX10_takeFollows_59 : decode cX10_takeFollows 59 = .ok (.getfield 117, 3) := by decide +kernel
theorem dX10_takeFollows_62 : decode cX10_takeFollows 62 = .ok (.iload_n 2, 1) := by decide +kernel
theorem dX10_takeFollows_63 : decode cX10_takeFollows 63 = .ok (.if_icmp .ne 13, 3) := by decide +kernel
theorem dX10_takeFollows_66 : decode cX10_takeFollows 66 = .ok (.aload_n 0, 1) := by decide +kernel
theorem dX10_takeFollows_67 : decode cX10_takeFollows 67 = .ok (.iconst 4, 1) := by decide +kernel
theorem dX10_takeFollows_68 : decode cX10_takeFollows 68 = .ok (.aload_n 0, 1) := by decide +kernel
theorem dX10_takeFollows_69 : decode cX10_takeFollows 69 = .ok (.getfield 114, 3) := by decide +kernel
theorem dX10_takeFollows_72 : decode cX10_takeFollows 72 = .ok (.invokevirtual 110, 3) := by decide +kernel
theorem dX10_takeFollows_75 : decode cX10_takeFollows 75 = .ok (.ireturn, 1) := by decide +kernel
theorem dX10_takeFollows_76 : decode cX10_takeFollows 76 = .ok (.iload_n 1, 1) := by decide +kernel
theorem dX10_takeFollows_77 : decode cX10_takeFollows 77 = .ok (.ifCond .ne 13, 3) := by decide +kernel
theorem dX10_takeFollows_80 : decode cX10_takeFollows 80 = .ok (.aload_n 0, 1) := by decide +kernel
theorem dX10_takeFollows_81 : decode cX10_takeFollows 81 = .ok (.getfield 38, 3) := by decide +kernel
theorem dX10_takeFollows_84 : decode cX10_takeFollows 84 = .ok (.iload_n 2, 1) := by decide +kernel
theorem dX10_takeFollows_85 : decode cX10_takeFollows 85 = .ok (.aload_n 0, 1) := by decide +kernel
theorem dX10_takeFollows_86 : decode cX10_takeFollows 86 = .ok (.getfield 117, 3) := by decide +kernel
theorem dX10_takeFollows_89 : decode cX10_takeFollows 89 = .ok (.iastore, 1) := by decide +kernel
theorem dX10_takeFollows_90 : decode cX10_takeFollows 90 = .ok (.iload_n 1, 1) := by decide +kernel
theorem dX10_takeFollows_91 : decode cX10_takeFollows 91 = .ok (.ireturn, 1) := by decide +kernel
theorem dX10_takeClause_0 : decode cX10_takeClause 0 = .ok (.aload_n 0, 1) := by decide +kernel
theorem dX10_takeClause_1 : decode cX10_takeClause 1 = .ok (.invokevirtual 102, 3) := by decide +kernel
theorem dX10_takeClause_4 : decode cX10_takeClause 4 = .ok (.istore_n 1, 1) := by decide +kernel
theorem dX10_takeClause_5 : decode cX10_takeClause 5 = .ok (.iload_n 1, 1) := by decide +kernel
theorem dX10_takeClause_6 : decode cX10_takeClause 6 = .ok (.bipush 116, 2) := by decide +kernel
theorem dX10_takeClause_8 : decode cX10_takeClause 8 = .ok (.if_icmp .ne 7, 3) := by decide +kernel
theorem dX10_takeClause_11 : decode cX10_takeClause 11 = .ok (.iconst 0, 1) := by decide +kernel
theorem dX10_takeClause_12 : decode cX10_takeClause 12 = .ok (.goto 24, 3) := by decide +kernel
theorem dX10_takeClause_15 : decode cX10_takeClause 15 = .ok (.iload_n 1, 1) := by decide +kernel
theorem dX10_takeClause_16 : decode cX10_takeClause 16 = .ok (.bipush 99, 2) := by decide +kernel
theorem dX10_takeClause_18 : decode cX10_takeClause 18 = .ok (.if_icmp .ne 7, 3) := by decide +kernel
theorem dX10_takeClause_21 : decode cX10_takeClause 21 = .ok (.iconst 1, 1) := by decide +kernel
theorem dX10_takeClause_22 : decode cX10_takeClause 22 = .ok (.goto 14, 3) := by decide +kernel
theorem dX10_takeClause_25 : decode cX10_takeClause 25 = .ok (.iload_n 1, 1) := by decide +kernel
theorem dX10_takeClause_26 : decode cX10_takeClause 26 = .ok (.bipush 102, 2) := by decide +kernel
theorem dX10_takeClause_28 : decode cX10_takeClause 28 = .ok (.if_icmp .ne 7, 3) := by decide +kernel
theorem dX10_takeClause_31 : decode cX10_takeClause 31 = .ok (.iconst 2, 1) := by decide +kernel
theorem dX10_takeClause_32 : decode cX10_takeClause 32 = .ok (.goto 4, 3) := by decide +kernel
theorem dX10_takeClause_35 : decode cX10_takeClause 35 = .ok (.iconst (-1), 1) := by decide +kernel
theorem dX10_takeClause_36 : decode cX10_takeClause 36 = .ok (.istore_n 2, 1) := by decide +kernel
theorem dX10_takeClause_37 : decode cX10_takeClause 37 = .ok (.iload_n 2, 1) := by decide +kernel
theorem dX10_takeClause_38 : decode cX10_takeClause 38 = .ok (.ifCond .lt 16, 3) := by decide +kernel
theorem dX10_takeClause_41 : decode cX10_takeClause 41 = .ok (.iload_n 2, 1) := by decide +kernel
theorem dX10_takeClause_42 : decode cX10_takeClause 42 = .ok (.ifCond .le 22, 3) := by decide +kernel
theorem dX10_takeClause_45 : decode cX10_takeClause 45 = .ok (.aload_n 0, 1) := by decide +kernel
theorem dX10_takeClause_46 : decode cX10_takeClause 46 = .ok (.getfield 26, 3) := by decide +kernel
theorem dX10_takeClause_49 : decode cX10_takeClause 49 = .ok (.iconst 0, 1) := by decide +kernel
theorem dX10_takeClause_50 : decode cX10_takeClause 50 = .ok (.iaload, 1) := by decide +kernel
theorem dX10_takeClause_51 : decode cX10_takeClause 51 = .ok (.ifCond .ne 13, 3) := by decide +kernel
theorem dX10_takeClause_54 : decode cX10_takeClause 54 = .ok (.aload_n 0, 1) := by decide +kernel
theorem dX10_takeClause_55 : decode cX10_takeClause 55 = .ok (.iconst 1, 1) := by decide +kernel
theorem dX10_takeClause_56 : decode cX10_takeClause 56 = .ok (.aload_n 0, 1) := by decide +kernel
theorem dX10_takeClause_57 : decode cX10_takeClause 57 = .ok (.getfield 99, 3) := by decide +kernel
theorem dX10_takeClause_60 : decode cX10_takeClause 60 = .ok (.invokevirtual 110, 3) := by decide +kernel
theorem dX10_takeClause_63 : decode cX10_takeClause 63 = .ok (.ireturn, 1) := by decide +kernel
theorem dX10_takeClause_64 : decode cX10_takeClause 64 = .ok (.iload_n 2, 1) := by decide +kernel
theorem dX10_takeClause_65 : decode cX10_takeClause 65 = .ok (.ifCond .ne 20, 3) := by decide +kernel
theorem dX10_takeClause_68 : decode cX10_takeClause 68 = .ok (.aload_n 0, 1) := by decide +kernel
theorem dX10_takeClause_69 : decode cX10_takeClause 69 = .ok (.getfield 26, 3) := by decide +kernel
theorem dX10_takeClause_72 : decode cX10_takeClause 72 = .ok (.iconst 0, 1) := by decide +kernel
theorem dX10_takeClause_73 : decode cX10_takeClause 73 = .ok (.iaload, 1) := by decide +kernel
theorem dX10_takeClause_74 : decode cX10_takeClause 74 = .ok (.ifCond .le 7, 3) := by decide +kernel
theorem dX10_takeClause_77 : decode cX10_takeClause 77 = .ok (.iconst 1, 1) := by decide +kernel
theorem dX10_takeClause_78 : decode cX10_takeClause 78 = .ok (.goto 26, 3) := by decide +kernel
theorem dX10_takeClause_81 : decode cX10_takeClause 81 = .ok (.iconst 0, 1) := by decide +kernel
theorem dX10_takeClause_82 : decode cX10_takeClause 82 = .ok (.goto 22, 3) := by decide +kernel
theorem dX10_takeClause_85 : decode cX10_takeClause 85 = .ok (.iload_n 2, 1) := by decide +kernel
theorem dX10_takeClause_86 : decode cX10_takeClause 86 = .ok (.iconst 1, 1) := by decide +kernel
theorem dX10_takeClause_87 : decode cX10_takeClause 87 = .ok (.if_icmp .ne 16, 3) := by decide +kernel
theorem dX10_takeClause_90 : decode cX10_takeClause 90 = .ok (.aload_n 0, 1) := by decide +kernel
theorem dX10_takeClause_91 : decode cX10_takeClause 91 = .ok (.getfield 128, 3) := by decide +kernel
theorem dX10_takeClause_94 : decode cX10_takeClause 94 = .ok (.bipush 8, 2) := by decide +kernel
theorem dX10_takeClause_96 : decode cX10_takeClause 96 = .ok (.if_icmp .ne 7, 3) := by decide +kernel
theorem dX10_takeClause_99 : decode cX10_takeClause 99 = .ok (.iconst 1, 1) := by decide +kernel
theorem dX10_takeClause_100 : decode cX10_takeClause 100 = .ok (.goto 4, 3) := by decide +kernel
theorem dX10_takeClause_103 : decode cX10_takeClause 103 = .ok (.iconst 0, 1) := by decide +kernel
theorem dX10_takeClause_104 : decode cX10_takeClause 104 = .ok (.istore_n 3, 1) := by decide +kernel
theorem dX10_takeClause_105 : decode cX10_takeClause 105 = .ok (.iload_n 3, 1) := by decide +kernel
theorem dX10_takeClause_106 : decode cX10_takeClause 106 = .ok (.ifCond .eq 13, 3) := by decide +kernel
theorem dX10_takeClause_109 : decode cX10_takeClause 109 = .ok (.aload_n 0, 1) := by decide +kernel
theorem dX10_takeClause_110 : decode cX10_takeClause 110 = .ok (.iconst 3, 1) := by decide +kernel
theorem dX10_takeClause_111 : decode cX10_takeClause 111 = .ok (.aload_n 0, 1) := by decide +kernel
theorem dX10_takeClause_112 : decode cX10_takeClause 112 = .ok (.getfield 99, 3) := by decide +kernel
theorem dX10_takeClause_115 : decode cX10_takeClause 115 = .ok (.invokevirtual 110, 3) := by decide +kernel
theorem dX10_takeClause_118 : decode cX10_takeClause 118 = .ok (.ireturn, 1) := by decide +kernel
theorem dX10_takeClause_119 : decode cX10_takeClause 119 = .ok (.aload_n 0, 1) := by decide +kernel
theorem dX10_takeClause_120 : decode cX10_takeClause 120 = .ok (.dup, 1) := by decide +kernel
theorem dX10_takeClause_121 : decode cX10_takeClause 121 = .ok (.getfield 99, 3) := by decide +kernel
theorem dX10_takeClause_124 : decode cX10_takeClause 124 = .ok (.iconst 1, 1) := by decide +kernel
theorem dX10_takeClause_125 : decode cX10_takeClause 125 = .ok (.iadd, 1) := by decide +kernel
theorem dX10_takeClause_126 : decode cX10_takeClause 126 = .ok (.putfield 99, 3) := by decide +kernel
theorem dX10_takeClause_129 : decode cX10_takeClause 129 = .ok (.iload_n 2, 1) := by decide +kernel
theorem dX10_takeClause_130 : decode cX10_takeClause 130 = .ok (.ifCond .ne 10, 3) := by decide +kernel
theorem dX10_takeClause_133 : decode cX10_takeClause 133 = .ok (.aload_n 0, 1) := by decide +kernel
theorem dX10_takeClause_134 : decode cX10_takeClause 134 = .ok (.invokevirtual 132, 3) := by decide +kernel
theorem dX10_takeClause_137 : decode cX10_takeClause 137 = .ok (.goto 19, 3) := by decide +kernel
theorem dX10_takeClause_140 : decode cX10_takeClause 140 = .ok (.iload_n 2, 1) := by decide +kernel
theorem dX10_takeClause_141 : decode cX10_takeClause 141 = .ok (.iconst 1, 1) := by decide +kernel
theorem dX10_takeClause_142 : decode cX10_takeClause 142 = .ok (.if_icmp .ne 10, 3) := by decide +kernel
theorem dX10_takeClause_145 : decode cX10_takeClause 145 = .ok (.aload_n 0, 1) := by decide +kernel
theorem dX10_takeClause_146 : decode cX10_takeClause 146 = .ok (.invokevirtual 135, 3) := by decide +kernel
theorem dX10_takeClause_149 : decode cX10_takeClause 149 = .ok (.goto 7, 3) := by decide +kernel
theorem dX10_takeClause_152 : decode cX10_takeClause 152 = .ok (.aload_n 0, 1) := by decide +kernel
theorem dX10_takeClause_153 : decode cX10_takeClause 153 = .ok (.invokevirtual 138, 3) := by decide +kernel
theorem dX10_takeClause_156 : decode cX10_takeClause 156 = .ok (.istore 4, 2) := by decide +kernel
theorem dX10_takeClause_158 : decode cX10_takeClause 158 = .ok (.iload 4, 2) := by decide +kernel
theorem dX10_takeClause_160 : decode cX10_takeClause 160 = .ok (.ifCond .ne 22, 3) := by decide +kernel
theorem dX10_takeClause_163 : decode cX10_takeClause 163 = .ok (.aload_n 0, 1) := by decide +kernel
theorem dX10_takeClause_164 : decode cX10_takeClause 164 = .ok (.invokevirtual 102, 3) := by decide +kernel
theorem dX10_takeClause_167 : decode cX10_takeClause 167 = .ok (.bipush 59, 2) := by decide +kernel
theorem dX10_takeClause_169 : decode cX10_takeClause 169 = .ok (.if_icmp .eq 13, 3) := by decide +kernel
theorem dX10_takeClause_172 : decode cX10_takeClause 172 = .ok (.aload_n 0, 1) := by decide +kernel
theorem dX10_takeClause_173 : decode cX10_takeClause 173 = .ok (.iconst 1, 1) := by decide +kernel
theorem dX10_takeClause_174 : decode cX10_takeClause 174 = .ok (.aload_n 0, 1) := by decide +kernel
theorem dX10_takeClause_175 : decode cX10_takeClause 175 = .ok (.getfield 99, 3) := by decide +kernel
theorem dX10_takeClause_178 : decode cX10_takeClause 178 = .ok (.invokevirtual 110, 3) := by decide +kernel
theorem dX10_takeClause_181 : decode cX10_takeClause 181 = .ok (.ireturn, 1) := by decide +kernel
theorem dX10_takeClause_182 : decode cX10_takeClause 182 = .ok (.aload_n 0, 1) := by decide +kernel
theorem dX10_takeClause_183 : decode cX10_takeClause 183 = .ok (.dup, 1) := by decide +kernel
theorem dX10_takeClause_184 : decode cX10_takeClause 184 = .ok (.getfield 99, 3) := by decide +kernel
theorem dX10_takeClause_187 : decode cX10_takeClause 187 = .ok (.iconst 1, 1) := by decide +kernel
theorem dX10_takeClause_188 : decode cX10_takeClause 188 = .ok (.iadd, 1) := by decide +kernel
theorem dX10_takeClause_189 : decode cX10_takeClause 189 = .ok (.putfield 99, 3) := by decide +kernel
theorem dX10_takeClause_192 : decode cX10_takeClause 192 = .ok (.iload 4, 2) := by decide +kernel
theorem dX10_takeClause_194 : decode cX10_takeClause 194 = .ok (.ireturn, 1) := by decide +kernel
theorem dX10_takeRead_0 : decode cX10_takeRead 0 = .ok (.aload_n 0, 1) := by decide +kernel
theorem dX10_takeRead_1 : decode cX10_takeRead 1 = .ok (.aload_n 0, 1) := by decide +kernel
theorem dX10_takeRead_2 : decode cX10_takeRead 2 = .ok (.getfield 26, 3) := by decide +kernel
theorem dX10_takeRead_5 : decode cX10_takeRead 5 = .ok (.iconst 0, 1) := by decide +kernel
theorem dX10_takeRead_6 : decode cX10_takeRead 6 = .ok (.iaload, 1) := by decide +kernel
theorem dX10_takeRead_7 : decode cX10_takeRead 7 = .ok (.putfield 78, 3) := by decide +kernel
theorem dX10_takeRead_10 : decode cX10_takeRead 10 = .ok (.aload_n 0, 1) := by decide +kernel
theorem dX10_takeRead_11 : decode cX10_takeRead 11 = .ok (.aload_n 0, 1) := by decide +kernel
theorem dX10_takeRead_12 : decode cX10_takeRead 12 = .ok (.getfield 26, 3) := by decide +kernel
theorem dX10_takeRead_15 : decode cX10_takeRead 15 = .ok (.iconst 1, 1) := by decide +kernel
theorem dX10_takeRead_16 : decode cX10_takeRead 16 = .ok (.iaload, 1) := by decide +kernel
theorem dX10_takeRead_17 : decode cX10_takeRead 17 = .ok (.putfield 141, 3) := by decide +kernel
theorem dX10_takeRead_20 : decode cX10_takeRead 20 = .ok (.aload_n 0, 1) := by decide +kernel
theorem dX10_takeRead_21 : decode cX10_takeRead 21 = .ok (.aload_n 0, 1) := by decide +kernel
theorem dX10_takeRead_22 : decode cX10_takeRead 22 = .ok (.getfield 128, 3) := by decide +kernel
theorem dX10_takeRead_25 : decode cX10_takeRead 25 = .ok (.putfield 85, 3) := by decide +kernel
theorem dX10_takeRead_28 : decode cX10_takeRead 28 = .ok (.iconst 0, 1) := by decide +kernel
theorem dX10_takeRead_29 : decode cX10_takeRead 29 = .ok (.istore_n 1, 1) := by decide +kernel
theorem dX10_takeRead_30 : decode cX10_takeRead 30 = .ok (.iload_n 1, 1) := by decide +kernel
theorem dX10_takeRead_31 : decode cX10_takeRead 31 = .ok (.bipush 41, 2) := by decide +kernel
theorem dX10_takeRead_33 : decode cX10_takeRead 33 = .ok (.if_icmp .ge 16, 3) := by decide +kernel
theorem dX10_takeRead_36 : decode cX10_takeRead 36 = .ok (.aload_n 0, 1) := by decide +kernel
theorem dX10_takeRead_37 : decode cX10_takeRead 37 = .ok (.getfield 16, 3) := by decide +kernel
theorem dX10_takeRead_40 : decode cX10_takeRead 40 = .ok (.iload_n 1, 1) := by decide +kernel
theorem dX10_takeRead_41 : decode cX10_takeRead 41 = .ok (.iconst 0, 1) := by decide +kernel
theorem dX10_takeRead_42 : decode cX10_takeRead 42 = .ok (.iastore, 1) := by decide +kernel
theorem dX10_takeRead_43 : decode cX10_takeRead 43 = .ok (.iinc 1 1, 3) := by decide +kernel
theorem dX10_takeRead_46 : decode cX10_takeRead 46 = .ok (.goto (-16), 3) := by decide +kernel
theorem dX10_takeRead_49 : decode cX10_takeRead 49 = .ok (.iconst 0, 1) := by decide +kernel
theorem dX10_takeRead_50 : decode cX10_takeRead 50 = .ok (.istore_n 1, 1) := by decide +kernel
theorem dX10_takeRead_51 : decode cX10_takeRead 51 = .ok (.iload_n 1, 1) := by decide +kernel
theorem dX10_takeRead_52 : decode cX10_takeRead 52 = .ok (.bipush 8, 2) := by decide +kernel
theorem dX10_takeRead_54 : decode cX10_takeRead 54 = .ok (.if_icmp .ge 72, 3) := by decide +kernel
theorem dX10_takeRead_57 : decode cX10_takeRead 57 = .ok (.aload_n 0, 1) := by decide +kernel
theorem dX10_takeRead_58 : decode cX10_takeRead 58 = .ok (.getfield 16, 3) := by decide +kernel
theorem dX10_takeRead_61 : decode cX10_takeRead 61 = .ok (.iload_n 1, 1) := by decide +kernel
theorem dX10_takeRead_62 : decode cX10_takeRead 62 = .ok (.iload_n 1, 1) := by decide +kernel
theorem dX10_takeRead_63 : decode cX10_takeRead 63 = .ok (.aload_n 0, 1) := by decide +kernel
theorem dX10_takeRead_64 : decode cX10_takeRead 64 = .ok (.getfield 85, 3) := by decide +kernel
theorem dX10_takeRead_67 : decode cX10_takeRead 67 = .ok (.if_icmp .ge 12, 3) := by decide +kernel
theorem dX10_takeRead_70 : decode cX10_takeRead 70 = .ok (.aload_n 0, 1) := by decide +kernel
theorem dX10_takeRead_71 : decode cX10_takeRead 71 = .ok (.getfield 29, 3) := by decide +kernel
theorem dX10_takeRead_74 : decode cX10_takeRead 74 = .ok (.iload_n 1, 1) := by decide +kernel
theorem dX10_takeRead_75 : decode cX10_takeRead 75 = .ok (.iaload, 1) := by decide +kernel
theorem dX10_takeRead_76 : decode cX10_takeRead 76 = .ok (.goto 4, 3) := by decide +kernel
theorem dX10_takeRead_79 : decode cX10_takeRead 79 = .ok (.iconst 0, 1) := by decide +kernel
theorem dX10_takeRead_80 : decode cX10_takeRead 80 = .ok (.iastore, 1) := by decide +kernel
theorem dX10_takeRead_81 : decode cX10_takeRead 81 = .ok (.aload_n 0, 1) := by decide +kernel
theorem dX10_takeRead_82 : decode cX10_takeRead 82 = .ok (.getfield 16, 3) := by decide +kernel
theorem dX10_takeRead_85 : decode cX10_takeRead 85 = .ok (.bipush 8, 2) := by decide +kernel
theorem dX10_takeRead_87 : decode cX10_takeRead 87 = .ok (.iload_n 1, 1) := by decide +kernel
theorem dX10_takeRead_88 : decode cX10_takeRead 88 = .ok (.iadd, 1) := by decide +kernel
theorem dX10_takeRead_89 : decode cX10_takeRead 89 = .ok (.iload_n 1, 1) := by decide +kernel
theorem dX10_takeRead_90 : decode cX10_takeRead 90 = .ok (.aload_n 0, 1) := by decide +kernel
theorem dX10_takeRead_91 : decode cX10_takeRead 91 = .ok (.getfield 85, 3) := by decide +kernel
theorem dX10_takeRead_94 : decode cX10_takeRead 94 = .ok (.if_icmp .ge 12, 3) := by decide +kernel
theorem dX10_takeRead_97 : decode cX10_takeRead 97 = .ok (.aload_n 0, 1) := by decide +kernel
theorem dX10_takeRead_98 : decode cX10_takeRead 98 = .ok (.getfield 38, 3) := by decide +kernel
theorem dX10_takeRead_101 : decode cX10_takeRead 101 = .ok (.iload_n 1, 1) := by decide +kernel
theorem dX10_takeRead_102 : decode cX10_takeRead 102 = .ok (.iaload, 1) := by decide +kernel
theorem dX10_takeRead_103 : decode cX10_takeRead 103 = .ok (.goto 4, 3) := by decide +kernel
theorem dX10_takeRead_106 : decode cX10_takeRead 106 = .ok (.iconst (-1), 1) := by decide +kernel
theorem dX10_takeRead_107 : decode cX10_takeRead 107 = .ok (.iastore, 1) := by decide +kernel
theorem dX10_takeRead_108 : decode cX10_takeRead 108 = .ok (.aload_n 0, 1) := by decide +kernel
theorem dX10_takeRead_109 : decode cX10_takeRead 109 = .ok (.getfield 13, 3) := by decide +kernel
theorem dX10_takeRead_112 : decode cX10_takeRead 112 = .ok (.iload_n 1, 1) := by decide +kernel
theorem dX10_takeRead_113 : decode cX10_takeRead 113 = .ok (.aload_n 0, 1) := by decide +kernel
theorem dX10_takeRead_114 : decode cX10_takeRead 114 = .ok (.getfield 35, 3) := by decide +kernel
theorem dX10_takeRead_117 : decode cX10_takeRead 117 = .ok (.iload_n 1, 1) := by decide +kernel
theorem dX10_takeRead_118 : decode cX10_takeRead 118 = .ok (.iaload, 1) := by decide +kernel
theorem dX10_takeRead_119 : decode cX10_takeRead 119 = .ok (.iastore, 1) := by decide +kernel
theorem dX10_takeRead_120 : decode cX10_takeRead 120 = .ok (.iinc 1 1, 3) := by decide +kernel
theorem dX10_takeRead_123 : decode cX10_takeRead 123 = .ok (.goto (-72), 3) := by decide +kernel
theorem dX10_takeRead_126 : decode cX10_takeRead 126 = .ok (.iconst 0, 1) := by decide +kernel
theorem dX10_takeRead_127 : decode cX10_takeRead 127 = .ok (.istore_n 1, 1) := by decide +kernel
theorem dX10_takeRead_128 : decode cX10_takeRead 128 = .ok (.iload_n 1, 1) := by decide +kernel
theorem dX10_takeRead_129 : decode cX10_takeRead 129 = .ok (.bipush 48, 2) := by decide +kernel
theorem dX10_takeRead_131 : decode cX10_takeRead 131 = .ok (.if_icmp .ge 21, 3) := by decide +kernel
theorem dX10_takeRead_134 : decode cX10_takeRead 134 = .ok (.aload_n 0, 1) := by decide +kernel
theorem dX10_takeRead_135 : decode cX10_takeRead 135 = .ok (.getfield 7, 3) := by decide +kernel
theorem dX10_takeRead_138 : decode cX10_takeRead 138 = .ok (.iload_n 1, 1) := by decide +kernel
theorem dX10_takeRead_139 : decode cX10_takeRead 139 = .ok (.aload_n 0, 1) := by decide +kernel
theorem dX10_takeRead_140 : decode cX10_takeRead 140 = .ok (.getfield 32, 3) := by decide +kernel
theorem dX10_takeRead_143 : decode cX10_takeRead 143 = .ok (.iload_n 1, 1) := by decide +kernel
theorem dX10_takeRead_144 : decode cX10_takeRead 144 = .ok (.iaload, 1) := by decide +kernel
theorem dX10_takeRead_145 : decode cX10_takeRead 145 = .ok (.iastore, 1) := by decide +kernel
theorem dX10_takeRead_146 : decode cX10_takeRead 146 = .ok (.iinc 1 1, 3) := by decide +kernel
theorem dX10_takeRead_149 : decode cX10_takeRead 149 = .ok (.goto (-21), 3) := by decide +kernel
theorem dX10_takeRead_152 : decode cX10_takeRead 152 = .ok (.return_, 1) := by decide +kernel
theorem dX10_town_0 : decode cX10_town 0 = .ok (.aload_n 0, 1) := by decide +kernel
theorem dX10_town_1 : decode cX10_town 1 = .ok (.iconst (-1), 1) := by decide +kernel
theorem dX10_town_2 : decode cX10_town 2 = .ok (.putfield 22, 3) := by decide +kernel
theorem dX10_town_5 : decode cX10_town 5 = .ok (.aload_n 0, 1) := by decide +kernel
theorem dX10_town_6 : decode cX10_town 6 = .ok (.iconst 0, 1) := by decide +kernel
theorem dX10_town_7 : decode cX10_town 7 = .ok (.putfield 99, 3) := by decide +kernel
theorem dX10_town_10 : decode cX10_town 10 = .ok (.aload_n 0, 1) := by decide +kernel
theorem dX10_town_11 : decode cX10_town 11 = .ok (.getfield 26, 3) := by decide +kernel
theorem dX10_town_14 : decode cX10_town 14 = .ok (.iconst 0, 1) := by decide +kernel
theorem dX10_town_15 : decode cX10_town 15 = .ok (.iconst 0, 1) := by decide +kernel
theorem dX10_town_16 : decode cX10_town 16 = .ok (.iastore, 1) := by decide +kernel
theorem dX10_town_17 : decode cX10_town 17 = .ok (.aload_n 0, 1) := by decide +kernel
theorem dX10_town_18 : decode cX10_town 18 = .ok (.getfield 26, 3) := by decide +kernel
theorem dX10_town_21 : decode cX10_town 21 = .ok (.iconst 1, 1) := by decide +kernel
theorem dX10_town_22 : decode cX10_town 22 = .ok (.iconst 0, 1) := by decide +kernel
theorem dX10_town_23 : decode cX10_town 23 = .ok (.iastore, 1) := by decide +kernel
theorem dX10_town_24 : decode cX10_town 24 = .ok (.aload_n 0, 1) := by decide +kernel
theorem dX10_town_25 : decode cX10_town 25 = .ok (.iconst 0, 1) := by decide +kernel
theorem dX10_town_26 : decode cX10_town 26 = .ok (.putfield 128, 3) := by decide +kernel
theorem dX10_town_29 : decode cX10_town 29 = .ok (.iconst 0, 1) := by decide +kernel
theorem dX10_town_30 : decode cX10_town 30 = .ok (.istore_n 1, 1) := by decide +kernel
theorem dX10_town_31 : decode cX10_town 31 = .ok (.iload_n 1, 1) := by decide +kernel
theorem dX10_town_32 : decode cX10_town 32 = .ok (.ifCond .ne 18, 3) := by decide +kernel
theorem dX10_town_35 : decode cX10_town 35 = .ok (.aload_n 0, 1) := by decide +kernel
theorem dX10_town_36 : decode cX10_town 36 = .ok (.invokevirtual 102, 3) := by decide +kernel
theorem dX10_town_39 : decode cX10_town 39 = .ok (.ifCond .lt 11, 3) := by decide +kernel
theorem dX10_town_42 : decode cX10_town 42 = .ok (.aload_n 0, 1) := by decide +kernel
theorem dX10_town_43 : decode cX10_town 43 = .ok (.invokevirtual 144, 3) := by decide +kernel
theorem dX10_town_46 : decode cX10_town 46 = .ok (.istore_n 1, 1) := by decide +kernel
theorem dX10_town_47 : decode cX10_town 47 = .ok (.goto (-16), 3) := by decide +kernel
theorem dX10_town_50 : decode cX10_town 50 = .ok (.aload_n 0, 1) := by decide +kernel
theorem dX10_town_51 : decode cX10_town 51 = .ok (.iconst 0, 1) := by decide +kernel
theorem dX10_town_52 : decode cX10_town 52 = .ok (.putfield 95, 3) := by decide +kernel
theorem dX10_town_55 : decode cX10_town 55 = .ok (.iload_n 1, 1) := by decide +kernel
theorem dX10_town_56 : decode cX10_town 56 = .ok (.ifCond .le 8, 3) := by decide +kernel
theorem dX10_town_59 : decode cX10_town 59 = .ok (.bipush (-10), 2) := by decide +kernel
theorem dX10_town_61 : decode cX10_town 61 = .ok (.iload_n 1, 1) := by decide +kernel
theorem dX10_town_62 : decode cX10_town 62 = .ok (.isub, 1) := by decide +kernel
theorem dX10_town_63 : decode cX10_town 63 = .ok (.ireturn, 1) := by decide +kernel
theorem dX10_town_64 : decode cX10_town 64 = .ok (.aload_n 0, 1) := by decide +kernel
theorem dX10_town_65 : decode cX10_town 65 = .ok (.invokevirtual 147, 3) := by decide +kernel
theorem dX10_town_68 : decode cX10_town 68 = .ok (.aload_n 0, 1) := by decide +kernel
theorem dX10_town_69 : decode cX10_town 69 = .ok (.iconst 0, 1) := by decide +kernel
theorem dX10_town_70 : decode cX10_town 70 = .ok (.putfield 150, 3) := by decide +kernel
theorem dX10_town_73 : decode cX10_town 73 = .ok (.aload_n 0, 1) := by decide +kernel
theorem dX10_town_74 : decode cX10_town 74 = .ok (.iconst 0, 1) := by decide +kernel
theorem dX10_town_75 : decode cX10_town 75 = .ok (.putfield 153, 3) := by decide +kernel
theorem dX10_town_78 : decode cX10_town 78 = .ok (.aload_n 0, 1) := by decide +kernel
theorem dX10_town_79 : decode cX10_town 79 = .ok (.iconst 0, 1) := by decide +kernel
theorem dX10_town_80 : decode cX10_town 80 = .ok (.putfield 156, 3) := by decide +kernel
theorem dX10_town_83 : decode cX10_town 83 = .ok (.aload_n 0, 1) := by decide +kernel
theorem dX10_town_84 : decode cX10_town 84 = .ok (.getfield 74, 3) := by decide +kernel
theorem dX10_town_87 : decode cX10_town 87 = .ok (.iconst 0, 1) := by decide +kernel
theorem dX10_town_88 : decode cX10_town 88 = .ok (.iconst 0, 1) := by decide +kernel
theorem dX10_town_89 : decode cX10_town 89 = .ok (.bastore, 1) := by decide +kernel
theorem dX10_town_90 : decode cX10_town 90 = .ok (.aload_n 0, 1) := by decide +kernel
theorem dX10_town_91 : decode cX10_town 91 = .ok (.getfield 74, 3) := by decide +kernel
theorem dX10_town_94 : decode cX10_town 94 = .ok (.iconst 1, 1) := by decide +kernel
theorem dX10_town_95 : decode cX10_town 95 = .ok (.iconst 0, 1) := by decide +kernel
theorem dX10_town_96 : decode cX10_town 96 = .ok (.bastore, 1) := by decide +kernel
theorem dX10_town_97 : decode cX10_town 97 = .ok (.aload_n 0, 1) := by decide +kernel
theorem dX10_town_98 : decode cX10_town 98 = .ok (.getfield 85, 3) := by decide +kernel
theorem dX10_town_101 : decode cX10_town 101 = .ok (.ireturn, 1) := by decide +kernel
theorem dX10_fault_0 : decode cX10_fault 0 = .ok (.aload_n 0, 1) := by decide +kernel
theorem dX10_fault_1 : decode cX10_fault 1 = .ok (.getfield 22, 3) := by decide +kernel
theorem dX10_fault_4 : decode cX10_fault 4 = .ok (.ireturn, 1) := by decide +kernel
theorem dX10_cornerOf_0 : decode cX10_cornerOf 0 = .ok (.aload_n 0, 1) := by decide +kernel
theorem dX10_cornerOf_1 : decode cX10_cornerOf 1 = .ok (.getfield 7, 3) := by decide +kernel
theorem dX10_cornerOf_4 : decode cX10_cornerOf 4 = .ok (.bipush 6, 2) := by decide +kernel
theorem dX10_cornerOf_6 : decode cX10_cornerOf 6 = .ok (.iload_n 1, 1) := by decide +kernel
theorem dX10_cornerOf_7 : decode cX10_cornerOf 7 = .ok (.imul, 1) := by decide +kernel
theorem dX10_cornerOf_8 : decode cX10_cornerOf 8 = .ok (.aload_n 0, 1) := by decide +kernel
theorem dX10_cornerOf_9 : decode cX10_cornerOf 9 = .ok (.getfield 16, 3) := by decide +kernel
theorem dX10_cornerOf_12 : decode cX10_cornerOf 12 = .ok (.bipush 32, 2) := by decide +kernel
theorem dX10_cornerOf_14 : decode cX10_cornerOf 14 = .ok (.iload_n 1, 1) := by decide +kernel
theorem dX10_cornerOf_15 : decode cX10_cornerOf 15 = .ok (.iadd, 1) := by decide +kernel
theorem dX10_cornerOf_16 : decode cX10_cornerOf 16 = .ok (.iaload, 1) := by decide +kernel
theorem dX10_cornerOf_17 : decode cX10_cornerOf 17 = .ok (.iconst 1, 1) := by decide +kernel
theorem dX10_cornerOf_18 : decode cX10_cornerOf 18 = .ok (.if_icmp .ne 16, 3) := by decide +kernel
theorem dX10_cornerOf_21 : decode cX10_cornerOf 21 = .ok (.aload_n 0, 1) := by decide +kernel
theorem dX10_cornerOf_22 : decode cX10_cornerOf 22 = .ok (.getfield 13, 3) := by decide +kernel
theorem dX10_cornerOf_25 : decode cX10_cornerOf 25 = .ok (.iload_n 1, 1) := by decide +kernel
theorem dX10_cornerOf_26 : decode cX10_cornerOf 26 = .ok (.iaload, 1) := by decide +kernel
theorem dX10_cornerOf_27 : decode cX10_cornerOf 27 = .ok (.iconst 1, 1) := by decide +kernel
theorem dX10_cornerOf_28 : decode cX10_cornerOf 28 = .ok (.isub, 1) := by decide +kernel
theorem dX10_cornerOf_29 : decode cX10_cornerOf 29 = .ok (.iload_n 2, 1) := by decide +kernel
theorem dX10_cornerOf_30 : decode cX10_cornerOf 30 = .ok (.isub, 1) := by decide +kernel
theorem dX10_cornerOf_31 : decode cX10_cornerOf 31 = .ok (.goto 4, 3) := by decide +kernel
theorem dX10_cornerOf_34 : decode cX10_cornerOf 34 = .ok (.iload_n 2, 1) := by decide +kernel
theorem dX10_cornerOf_35 : decode cX10_cornerOf 35 = .ok (.iadd, 1) := by decide +kernel
theorem dX10_cornerOf_36 : decode cX10_cornerOf 36 = .ok (.iaload, 1) := by decide +kernel
theorem dX10_cornerOf_37 : decode cX10_cornerOf 37 = .ok (.ireturn, 1) := by decide +kernel
theorem dX10_stepAll_0 : decode cX10_stepAll 0 = .ok (.iconst 0, 1) := by decide +kernel
theorem dX10_stepAll_1 : decode cX10_stepAll 1 = .ok (.istore_n 1, 1) := by decide +kernel
theorem dX10_stepAll_2 : decode cX10_stepAll 2 = .ok (.iload_n 1, 1) := by decide +kernel
theorem dX10_stepAll_3 : decode cX10_stepAll 3 = .ok (.aload_n 0, 1) := by decide +kernel
theorem dX10_stepAll_4 : decode cX10_stepAll 4 = .ok (.getfield 85, 3) := by decide +kernel
theorem dX10_stepAll_7 : decode cX10_stepAll 7 = .ok (.if_icmp .ge 21, 3) := by decide +kernel
theorem dX10_stepAll_10 : decode cX10_stepAll 10 = .ok (.aload_n 0, 1) := by decide +kernel
theorem dX10_stepAll_11 : decode cX10_stepAll 11 = .ok (.getfield 41, 3) := by decide +kernel
theorem dX10_stepAll_14 : decode cX10_stepAll 14 = .ok (.iload_n 1, 1) := by decide +kernel
theorem dX10_stepAll_15 : decode cX10_stepAll 15 = .ok (.aload_n 0, 1) := by decide +kernel
theorem dX10_stepAll_16 : decode cX10_stepAll 16 = .ok (.getfield 16, 3) := by decide +kernel
theorem dX10_stepAll_19 : decode cX10_stepAll 19 = .ok (.iload_n 1, 1) := by decide +kernel
theorem dX10_stepAll_20 : decode cX10_stepAll 20 = .ok (.iaload, 1) := by decide +kernel
theorem dX10_stepAll_21 : decode cX10_stepAll 21 = .ok (.iastore, 1) := by decide +kernel
theorem dX10_stepAll_22 : decode cX10_stepAll 22 = .ok (.iinc 1 1, 3) := by decide +kernel
theorem dX10_stepAll_25 : decode cX10_stepAll 25 = .ok (.goto (-23), 3) := by decide +kernel
theorem dX10_stepAll_28 : decode cX10_stepAll 28 = .ok (.iconst 0, 1) := by decide +kernel
theorem dX10_stepAll_29 : decode cX10_stepAll 29 = .ok (.istore_n 1, 1) := by decide +kernel
theorem dX10_stepAll_30 : decode cX10_stepAll 30 = .ok (.iload_n 1, 1) := by decide +kernel
theorem dX10_stepAll_31 : decode cX10_stepAll 31 = .ok (.aload_n 0, 1) := by decide +kernel
theorem dX10_stepAll_32 : decode cX10_stepAll 32 = .ok (.getfield 85, 3) := by decide +kernel
theorem dX10_stepAll_35 : decode cX10_stepAll 35 = .ok (.if_icmp .ge 117, 3) := by decide +kernel
theorem dX10_stepAll_38 : decode cX10_stepAll 38 = .ok (.aload_n 0, 1) := by decide +kernel
theorem dX10_stepAll_39 : decode cX10_stepAll 39 = .ok (.getfield 16, 3) := by decide +kernel
theorem dX10_stepAll_42 : decode cX10_stepAll 42 = .ok (.bipush 8, 2) := by decide +kernel
theorem dX10_stepAll_44 : decode cX10_stepAll 44 = .ok (.iload_n 1, 1) := by decide +kernel
theorem dX10_stepAll_45 : decode cX10_stepAll 45 = .ok (.iadd, 1) := by decide +kernel
theorem dX10_stepAll_46 : decode cX10_stepAll 46 = .ok (.iaload, 1) := by decide +kernel
theorem dX10_stepAll_47 : decode cX10_stepAll 47 = .ok (.istore_n 2, 1) := by decide +kernel
theorem dX10_stepAll_48 : decode cX10_stepAll 48 = .ok (.iload_n 2, 1) := by decide +kernel
theorem dX10_stepAll_49 : decode cX10_stepAll 49 = .ok (.ifCond .lt 18, 3) := by decide +kernel
theorem dX10_stepAll_52 : decode cX10_stepAll 52 = .ok (.aload_n 0, 1) := by decide +kernel
theorem dX10_stepAll_53 : decode cX10_stepAll 53 = .ok (.getfield 16, 3) := by decide +kernel
theorem dX10_stepAll_56 : decode cX10_stepAll 56 = .ok (.iload_n 1, 1) := by decide +kernel
theorem dX10_stepAll_57 : decode cX10_stepAll 57 = .ok (.aload_n 0, 1) := by decide +kernel
theorem dX10_stepAll_58 : decode cX10_stepAll 58 = .ok (.getfield 41, 3) := by decide +kernel
theorem dX10_stepAll_61 : decode cX10_stepAll 61 = .ok (.iload_n 2, 1) := by decide +kernel
theorem dX10_stepAll_62 : decode cX10_stepAll 62 = .ok (.iaload, 1) := by decide +kernel
theorem dX10_stepAll_63 : decode cX10_stepAll 63 = .ok (.iastore, 1) := by decide +kernel
theorem dX10_stepAll_64 : decode cX10_stepAll 64 = .ok (.goto 50, 3) := by decide +kernel
theorem dX10_stepAll_67 : decode cX10_stepAll 67 = .ok (.aload_n 0, 1) := by decide +kernel
theorem dX10_stepAll_68 : decode cX10_stepAll 68 = .ok (.getfield 16, 3) := by decide +kernel
theorem dX10_stepAll_71 : decode cX10_stepAll 71 = .ok (.iload_n 1, 1) := by decide +kernel
theorem dX10_stepAll_72 : decode cX10_stepAll 72 = .ok (.aload_n 0, 1) := by decide +kernel
theorem dX10_stepAll_73 : decode cX10_stepAll 73 = .ok (.iload_n 1, 1) := by decide +kernel
theorem dX10_stepAll_74 : decode cX10_stepAll 74 = .ok (.aload_n 0, 1) := by decide +kernel
theorem dX10_stepAll_75 : decode cX10_stepAll 75 = .ok (.getfield 16, 3) := by decide +kernel
theorem dX10_stepAll_78 : decode cX10_stepAll 78 = .ok (.bipush 16, 2) := by decide +kernel
theorem dX10_stepAll_80 : decode cX10_stepAll 80 = .ok (.iload_n 1, 1) := by decide +kernel
theorem dX10_stepAll_81 : decode cX10_stepAll 81 = .ok (.iadd, 1) := by decide +kernel
theorem dX10_stepAll_82 : decode cX10_stepAll 82 = .ok (.iaload, 1) := by decide +kernel
theorem dX10_stepAll_83 : decode cX10_stepAll 83 = .ok (.invokevirtual 159, 3) := by decide +kernel
theorem dX10_stepAll_86 : decode cX10_stepAll 86 = .ok (.iastore, 1) := by decide +kernel
theorem dX10_stepAll_87 : decode cX10_stepAll 87 = .ok (.aload_n 0, 1) := by decide +kernel
theorem dX10_stepAll_88 : decode cX10_stepAll 88 = .ok (.getfield 16, 3) := by decide +kernel
theorem dX10_stepAll_91 : decode cX10_stepAll 91 = .ok (.bipush 16, 2) := by decide +kernel
theorem dX10_stepAll_93 : decode cX10_stepAll 93 = .ok (.iload_n 1, 1) := by decide +kernel
theorem dX10_stepAll_94 : decode cX10_stepAll 94 = .ok (.iadd, 1) := by decide +kernel
theorem dX10_stepAll_95 : decode cX10_stepAll 95 = .ok (.aload_n 0, 1) := by decide +kernel
theorem dX10_stepAll_96 : decode cX10_stepAll 96 = .ok (.getfield 16, 3) := by decide +kernel
theorem dX10_stepAll_99 : decode cX10_stepAll 99 = .ok (.bipush 16, 2) := by decide +kernel
theorem dX10_stepAll_101 : decode cX10_stepAll 101 = .ok (.iload_n 1, 1) := by decide +kernel
theorem dX10_stepAll_102 : decode cX10_stepAll 102 = .ok (.iadd, 1) := by decide +kernel
theorem dX10_stepAll_103 : decode cX10_stepAll 103 = .ok (.iaload, 1) := by decide +kernel
theorem dX10_stepAll_104 : decode cX10_stepAll 104 = .ok (.iconst 1, 1) := by decide +kernel
theorem dX10_stepAll_105 : decode cX10_stepAll 105 = .ok (.iadd, 1) := by decide +kernel
theorem dX10_stepAll_106 : decode cX10_stepAll 106 = .ok (.aload_n 0, 1) := by decide +kernel
theorem dX10_stepAll_107 : decode cX10_stepAll 107 = .ok (.getfield 13, 3) := by decide +kernel
theorem dX10_stepAll_110 : decode cX10_stepAll 110 = .ok (.iload_n 1, 1) := by decide +kernel
theorem dX10_stepAll_111 : decode cX10_stepAll 111 = .ok (.iaload, 1) := by decide +kernel
theorem dX10_stepAll_112 : decode cX10_stepAll 112 = .ok (.irem, 1) := by decide +kernel
theorem dX10_stepAll_113 : decode cX10_stepAll 113 = .ok (.iastore, 1) := by decide +kernel
theorem dX10_stepAll_114 : decode cX10_stepAll 114 = .ok (.aload_n 0, 1) := by decide +kernel
theorem dX10_stepAll_115 : decode cX10_stepAll 115 = .ok (.getfield 16, 3) := by decide +kernel
theorem dX10_stepAll_118 : decode cX10_stepAll 118 = .ok (.bipush 24, 2) := by decide +kernel
theorem dX10_stepAll_120 : decode cX10_stepAll 120 = .ok (.iload_n 1, 1) := by decide +kernel
theorem dX10_stepAll_121 : decode cX10_stepAll 121 = .ok (.iadd, 1) := by decide +kernel
theorem dX10_stepAll_122 : decode cX10_stepAll 122 = .ok (.dup2, 1) := by decide +kernel
theorem dX10_stepAll_123 : decode cX10_stepAll 123 = .ok (.iaload, 1) := by decide +kernel
theorem dX10_stepAll_124 : decode cX10_stepAll 124 = .ok (.aload_n 0, 1) := by decide +kernel
theorem dX10_stepAll_125 : decode cX10_stepAll 125 = .ok (.getfield 16, 3) := by decide +kernel
theorem dX10_stepAll_128 : decode cX10_stepAll 128 = .ok (.iload_n 1, 1) := by decide +kernel
theorem dX10_stepAll_129 : decode cX10_stepAll 129 = .ok (.iaload, 1) := by decide +kernel
theorem dX10_stepAll_130 : decode cX10_stepAll 130 = .ok (.aload_n 0, 1) := by decide +kernel
theorem dX10_stepAll_131 : decode cX10_stepAll 131 = .ok (.getfield 41, 3) := by decide +kernel
theorem dX10_stepAll_134 : decode cX10_stepAll 134 = .ok (.iload_n 1, 1) := by decide +kernel
theorem dX10_stepAll_135 : decode cX10_stepAll 135 = .ok (.iaload, 1) := by decide +kernel
theorem dX10_stepAll_136 : decode cX10_stepAll 136 = .ok (.if_icmp .ne 7, 3) := by decide +kernel
theorem dX10_stepAll_139 : decode cX10_stepAll 139 = .ok (.iconst 0, 1) := by decide +kernel
theorem dX10_stepAll_140 : decode cX10_stepAll 140 = .ok (.goto 4, 3) := by decide +kernel
theorem dX10_stepAll_143 : decode cX10_stepAll 143 = .ok (.iconst 1, 1) := by decide +kernel
theorem dX10_stepAll_144 : decode cX10_stepAll 144 = .ok (.iadd, 1) := by decide +kernel
theorem dX10_stepAll_145 : decode cX10_stepAll 145 = .ok (.iastore, 1) := by decide +kernel
theorem dX10_stepAll_146 : decode cX10_stepAll 146 = .ok (.iinc 1 1, 3) := by decide +kernel
theorem dX10_stepAll_149 : decode cX10_stepAll 149 = .ok (.goto (-119), 3) := by decide +kernel
theorem dX10_stepAll_152 : decode cX10_stepAll 152 = .ok (.aload_n 0, 1) := by decide +kernel
theorem dX10_stepAll_153 : decode cX10_stepAll 153 = .ok (.getfield 16, 3) := by decide +kernel
theorem dX10_stepAll_156 : decode cX10_stepAll 156 = .ok (.bipush 40, 2) := by decide +kernel
theorem dX10_stepAll_158 : decode cX10_stepAll 158 = .ok (.dup2, 1) := by decide +kernel
theorem dX10_stepAll_159 : decode cX10_stepAll 159 = .ok (.iaload, 1) := by decide +kernel
theorem dX10_stepAll_160 : decode cX10_stepAll 160 = .ok (.iconst 1, 1) := by decide +kernel
theorem dX10_stepAll_161 : decode cX10_stepAll 161 = .ok (.iadd, 1) := by decide +kernel
theorem dX10_stepAll_162 : decode cX10_stepAll 162 = .ok (.iastore, 1) := by decide +kernel
theorem dX10_stepAll_163 : decode cX10_stepAll 163 = .ok (.return_, 1) := by decide +kernel
theorem dX10_roundOf_0 : decode cX10_roundOf 0 = .ok (.iconst 0, 1) := by decide +kernel
theorem dX10_roundOf_1 : decode cX10_roundOf 1 = .ok (.istore_n 2, 1) := by decide +kernel
theorem dX10_roundOf_2 : decode cX10_roundOf 2 = .ok (.iconst 0, 1) := by decide +kernel
theorem dX10_roundOf_3 : decode cX10_roundOf 3 = .ok (.istore_n 3, 1) := by decide +kernel
theorem dX10_roundOf_4 : decode cX10_roundOf 4 = .ok (.iload_n 3, 1) := by decide +kernel
theorem dX10_roundOf_5 : decode cX10_roundOf 5 = .ok (.aload_n 0, 1) := by decide +kernel
theorem dX10_roundOf_6 : decode cX10_roundOf 6 = .ok (.getfield 13, 3) := by decide +kernel
theorem dX10_roundOf_9 : decode cX10_roundOf 9 = .ok (.iload_n 1, 1) := by decide +kernel
theorem dX10_roundOf_10 : decode cX10_roundOf 10 = .ok (.iaload, 1) := by decide +kernel
theorem dX10_roundOf_11 : decode cX10_roundOf 11 = .ok (.if_icmp .ge 23, 3) := by decide +kernel
theorem dX10_roundOf_14 : decode cX10_roundOf 14 = .ok (.bipush 10, 2) := by decide +kernel
theorem dX10_roundOf_16 : decode cX10_roundOf 16 = .ok (.iload_n 2, 1) := by decide +kernel
theorem dX10_roundOf_17 : decode cX10_roundOf 17 = .ok (.imul, 1) := by decide +kernel
theorem dX10_roundOf_18 : decode cX10_roundOf 18 = .ok (.aload_n 0, 1) := by decide +kernel
theorem dX10_roundOf_19 : decode cX10_roundOf 19 = .ok (.iload_n 1, 1) := by decide +kernel
theorem dX10_roundOf_20 : decode cX10_roundOf 20 = .ok (.iload_n 3, 1) := by decide +kernel
theorem dX10_roundOf_21 : decode cX10_roundOf 21 = .ok (.invokevirtual 159, 3) := by decide +kernel
theorem dX10_roundOf_24 : decode cX10_roundOf 24 = .ok (.iadd, 1) := by decide +kernel
theorem dX10_roundOf_25 : decode cX10_roundOf 25 = .ok (.iconst 1, 1) := by decide +kernel
theorem dX10_roundOf_26 : decode cX10_roundOf 26 = .ok (.iadd, 1) := by decide +kernel
theorem dX10_roundOf_27 : decode cX10_roundOf 27 = .ok (.istore_n 2, 1) := by decide +kernel
theorem dX10_roundOf_28 : decode cX10_roundOf 28 = .ok (.iinc 3 1, 3) := by decide +kernel
theorem dX10_roundOf_31 : decode cX10_roundOf 31 = .ok (.goto (-27), 3) := by decide +kernel
theorem dX10_roundOf_34 : decode cX10_roundOf 34 = .ok (.iload_n 2, 1) := by decide +kernel
theorem dX10_roundOf_35 : decode cX10_roundOf 35 = .ok (.ireturn, 1) := by decide +kernel
theorem dX10_behindOf_0 : decode cX10_behindOf 0 = .ok (.iconst 0, 1) := by decide +kernel
theorem dX10_behindOf_1 : decode cX10_behindOf 1 = .ok (.istore_n 2, 1) := by decide +kernel
theorem dX10_behindOf_2 : decode cX10_behindOf 2 = .ok (.iconst 0, 1) := by decide +kernel
theorem dX10_behindOf_3 : decode cX10_behindOf 3 = .ok (.istore_n 3, 1) := by decide +kernel
theorem dX10_behindOf_4 : decode cX10_behindOf 4 = .ok (.iload_n 3, 1) := by decide +kernel
theorem dX10_behindOf_5 : decode cX10_behindOf 5 = .ok (.bipush 8, 2) := by decide +kernel
theorem dX10_behindOf_7 : decode cX10_behindOf 7 = .ok (.if_icmp .ge 70, 3) := by decide +kernel
theorem dX10_behindOf_10 : decode cX10_behindOf 10 = .ok (.iconst 0, 1) := by decide +kernel
theorem dX10_behindOf_11 : decode cX10_behindOf 11 = .ok (.istore 4, 2) := by decide +kernel
theorem dX10_behindOf_13 : decode cX10_behindOf 13 = .ok (.iload 4, 2) := by decide +kernel
theorem dX10_behindOf_15 : decode cX10_behindOf 15 = .ok (.aload_n 0, 1) := by decide +kernel
theorem dX10_behindOf_16 : decode cX10_behindOf 16 = .ok (.getfield 85, 3) := by decide +kernel
theorem dX10_behindOf_19 : decode cX10_behindOf 19 = .ok (.if_icmp .ge 52, 3) := by decide +kernel
theorem dX10_behindOf_22 : decode cX10_behindOf 22 = .ok (.aload_n 0, 1) := by decide +kernel
theorem dX10_behindOf_23 : decode cX10_behindOf 23 = .ok (.getfield 16, 3) := by decide +kernel
theorem dX10_behindOf_26 : decode cX10_behindOf 26 = .ok (.bipush 8, 2) := by decide +kernel
theorem dX10_behindOf_28 : decode cX10_behindOf 28 = .ok (.iload 4, 2) := by decide +kernel
theorem dX10_behindOf_30 : decode cX10_behindOf 30 = .ok (.iadd, 1) := by decide +kernel
theorem dX10_behindOf_31 : decode cX10_behindOf 31 = .ok (.iaload, 1) := by decide +kernel
theorem dX10_behindOf_32 : decode cX10_behindOf 32 = .ok (.istore 5, 2) := by decide +kernel
theorem dX10_behindOf_34 : decode cX10_behindOf 34 = .ok (.iload_n 2, 1) := by decide +kernel
theorem dX10_behindOf_35 : decode cX10_behindOf 35 = .ok (.iload 5, 2) := by decide +kernel
theorem dX10_behindOf_37 : decode cX10_behindOf 37 = .ok (.iload_n 1, 1) := by decide +kernel
theorem dX10_behindOf_38 : decode cX10_behindOf 38 = .ok (.if_icmp .eq 17, 3) := by decide +kernel
theorem dX10_behindOf_41 : decode cX10_behindOf 41 = .ok (.iload 5, 2) := by decide +kernel
theorem dX10_behindOf_43 : decode cX10_behindOf 43 = .ok (.ifCond .lt 19, 3) := by decide +kernel
theorem dX10_behindOf_46 : decode cX10_behindOf 46 = .ok (.iload_n 2, 1) := by decide +kernel
theorem dX10_behindOf_47 : decode cX10_behindOf 47 = .ok (.iload 5, 2) := by decide +kernel
theorem dX10_behindOf_49 : decode cX10_behindOf 49 = .ok (.invokestatic 162, 3) := by decide +kernel
theorem dX10_behindOf_52 : decode cX10_behindOf 52 = .ok (.ifCond .eq 10, 3) := by decide +kernel
theorem dX10_behindOf_55 : decode cX10_behindOf 55 = .ok (.iconst 1, 1) := by decide +kernel
theorem dX10_behindOf_56 : decode cX10_behindOf 56 = .ok (.iload 4, 2) := by decide +kernel
theorem dX10_behindOf_58 : decode cX10_behindOf 58 = .ok (.ishl, 1) := by decide +kernel
theorem dX10_behindOf_59 : decode cX10_behindOf 59 = .ok (.goto 4, 3) := by decide +kernel
theorem dX10_behindOf_62 : decode cX10_behindOf 62 = .ok (.iconst 0, 1) := by decide +kernel
theorem dX10_behindOf_63 : decode cX10_behindOf 63 = .ok (.ior, 1) := by decide +kernel
theorem dX10_behindOf_64 : decode cX10_behindOf 64 = .ok (.istore_n 2, 1) := by decide +kernel
theorem dX10_behindOf_65 : decode cX10_behindOf 65 = .ok (.iinc 4 1, 3) := by decide +kernel
theorem dX10_behindOf_68 : decode cX10_behindOf 68 = .ok (.goto (-55), 3) := by decide +kernel
theorem dX10_behindOf_71 : decode cX10_behindOf 71 = .ok (.iinc 3 1, 3) := by decide +kernel
theorem dX10_behindOf_74 : decode cX10_behindOf 74 = .ok (.goto (-70), 3) := by decide +kernel
theorem dX10_behindOf_77 : decode cX10_behindOf 77 = .ok (.iload_n 2, 1) := by decide +kernel
theorem dX10_behindOf_78 : decode cX10_behindOf 78 = .ok (.ireturn, 1) := by decide +kernel
theorem dX10_ringOf_0 : decode cX10_ringOf 0 = .ok (.iconst 0, 1) := by decide +kernel
theorem dX10_ringOf_1 : decode cX10_ringOf 1 = .ok (.istore_n 2, 1) := by decide +kernel
theorem dX10_ringOf_2 : decode cX10_ringOf 2 = .ok (.iload_n 1, 1) := by decide +kernel
theorem dX10_ringOf_3 : decode cX10_ringOf 3 = .ok (.istore_n 3, 1) := by decide +kernel
theorem dX10_ringOf_4 : decode cX10_ringOf 4 = .ok (.iconst 0, 1) := by decide +kernel
theorem dX10_ringOf_5 : decode cX10_ringOf 5 = .ok (.istore 4, 2) := by decide +kernel
theorem dX10_ringOf_7 : decode cX10_ringOf 7 = .ok (.iload 4, 2) := by decide +kernel
theorem dX10_ringOf_9 : decode cX10_ringOf 9 = .ok (.bipush 8, 2) := by decide +kernel
theorem dX10_ringOf_11 : decode cX10_ringOf 11 = .ok (.if_icmp .ge 44, 3) := by decide +kernel
theorem dX10_ringOf_14 : decode cX10_ringOf 14 = .ok (.iload_n 3, 1) := by decide +kernel
theorem dX10_ringOf_15 : decode cX10_ringOf 15 = .ok (.ifCond .lt 40, 3) := by decide +kernel
theorem dX10_ringOf_18 : decode cX10_ringOf 18 = .ok (.aload_n 0, 1) := by decide +kernel
theorem dX10_ringOf_19 : decode cX10_ringOf 19 = .ok (.getfield 16, 3) := by decide +kernel
theorem dX10_ringOf_22 : decode cX10_ringOf 22 = .ok (.bipush 8, 2) := by decide +kernel
theorem dX10_ringOf_24 : decode cX10_ringOf 24 = .ok (.iload_n 3, 1) := by decide +kernel
theorem dX10_ringOf_25 : decode cX10_ringOf 25 = .ok (.iadd, 1) := by decide +kernel
theorem dX10_ringOf_26 : decode cX10_ringOf 26 = .ok (.iaload, 1) := by decide +kernel
theorem dX10_ringOf_27 : decode cX10_ringOf 27 = .ok (.istore_n 3, 1) := by decide +kernel
theorem dX10_ringOf_28 : decode cX10_ringOf 28 = .ok (.iload_n 2, 1) := by decide +kernel
theorem dX10_ringOf_29 : decode cX10_ringOf 29 = .ok (.iload_n 3, 1) := by decide +kernel
theorem dX10_ringOf_30 : decode cX10_ringOf 30 = .ok (.ifCond .lt 9, 3) := by decide +kernel
theorem dX10_ringOf_33 : decode cX10_ringOf 33 = .ok (.iconst 1, 1) := by decide +kernel
theorem dX10_ringOf_34 : decode cX10_ringOf 34 = .ok (.iload_n 3, 1) := by decide +kernel
theorem dX10_ringOf_35 : decode cX10_ringOf 35 = .ok (.ishl, 1) := by decide +kernel
theorem dX10_ringOf_36 : decode cX10_ringOf 36 = .ok (.goto 4, 3) := by decide +kernel
theorem dX10_ringOf_39 : decode cX10_ringOf 39 = .ok (.iconst 0, 1) := by decide +kernel
theorem dX10_ringOf_40 : decode cX10_ringOf 40 = .ok (.ior, 1) := by decide +kernel
theorem dX10_ringOf_41 : decode cX10_ringOf 41 = .ok (.istore_n 2, 1) := by decide +kernel
theorem dX10_ringOf_42 : decode cX10_ringOf 42 = .ok (.iload_n 3, 1) := by decide +kernel
theorem dX10_ringOf_43 : decode cX10_ringOf 43 = .ok (.iload_n 1, 1) := by decide +kernel
theorem dX10_ringOf_44 : decode cX10_ringOf 44 = .ok (.if_icmp .ne 5, 3) := by decide +kernel
theorem dX10_ringOf_47 : decode cX10_ringOf 47 = .ok (.iload_n 2, 1) := by decide +kernel
theorem dX10_ringOf_48 : decode cX10_ringOf 48 = .ok (.ireturn, 1) := by decide +kernel
theorem dX10_ringOf_49 : decode cX10_ringOf 49 = .ok (.iinc 4 1, 3) := by decide +kernel
theorem dX10_ringOf_52 : decode cX10_ringOf 52 = .ok (.goto (-45), 3) := by decide +kernel
theorem dX10_ringOf_55 : decode cX10_ringOf 55 = .ok (.iconst 0, 1) := by decide +kernel
theorem dX10_ringOf_56 : decode cX10_ringOf 56 = .ok (.ireturn, 1) := by decide +kernel
theorem dX10_least_0 : decode cX10_least 0 = .ok (.iconst 0, 1) := by decide +kernel
theorem dX10_least_1 : decode cX10_least 1 = .ok (.istore_n 1, 1) := by decide +kernel
theorem dX10_least_2 : decode cX10_least 2 = .ok (.iload_n 0, 1) := by decide +kernel
theorem dX10_least_3 : decode cX10_least 3 = .ok (.iload_n 1, 1) := by decide +kernel
theorem dX10_least_4 : decode cX10_least 4 = .ok (.invokestatic 162, 3) := by decide +kernel
theorem dX10_least_7 : decode cX10_least 7 = .ok (.ifCond .ne 9, 3) := by decide +kernel
theorem dX10_least_10 : decode cX10_least 10 = .ok (.iinc 1 1, 3) := by decide +kernel
theorem dX10_least_13 : decode cX10_least 13 = .ok (.goto (-11), 3) := by decide +kernel
theorem dX10_least_16 : decode cX10_least 16 = .ok (.iload_n 1, 1) := by decide +kernel
theorem dX10_least_17 : decode cX10_least 17 = .ok (.ireturn, 1) := by decide +kernel
theorem dX10_ringsNow_0 : decode cX10_ringsNow 0 = .ok (.iconst 0, 1) := by decide +kernel
theorem dX10_ringsNow_1 : decode cX10_ringsNow 1 = .ok (.istore_n 2, 1) := by decide +kernel
theorem dX10_ringsNow_2 : decode cX10_ringsNow 2 = .ok (.iconst 0, 1) := by decide +kernel
theorem dX10_ringsNow_3 : decode cX10_ringsNow 3 = .ok (.istore_n 3, 1) := by decide +kernel
theorem dX10_ringsNow_4 : decode cX10_ringsNow 4 = .ok (.iload_n 3, 1) := by decide +kernel
theorem dX10_ringsNow_5 : decode cX10_ringsNow 5 = .ok (.aload_n 0, 1) := by decide +kernel
theorem dX10_ringsNow_6 : decode cX10_ringsNow 6 = .ok (.getfield 85, 3) := by decide +kernel
theorem dX10_ringsNow_9 : decode cX10_ringsNow 9 = .ok (.if_icmp .ge 41, 3) := by decide +kernel
theorem dX10_ringsNow_12 : decode cX10_ringsNow 12 = .ok (.aload_n 0, 1) := by decide +kernel
theorem dX10_ringsNow_13 : decode cX10_ringsNow 13 = .ok (.iload_n 3, 1) := by decide +kernel
theorem dX10_ringsNow_14 : decode cX10_ringsNow 14 = .ok (.invokevirtual 166, 3) := by decide +kernel
theorem dX10_ringsNow_17 : decode cX10_ringsNow 17 = .ok (.istore 4, 2) := by decide +kernel
theorem dX10_ringsNow_19 : decode cX10_ringsNow 19 = .ok (.iload 4, 2) := by decide +kernel
theorem dX10_ringsNow_21 : decode cX10_ringsNow 21 = .ok (.ifCond .eq 23, 3) := by decide +kernel
theorem dX10_ringsNow_24 : decode cX10_ringsNow 24 = .ok (.iload 4, 2) := by decide +kernel
theorem dX10_ringsNow_26 : decode cX10_ringsNow 26 = .ok (.invokestatic 170, 3) := by decide +kernel
theorem dX10_ringsNow_29 : decode cX10_ringsNow 29 = .ok (.iload_n 3, 1) := by decide +kernel
theorem dX10_ringsNow_30 : decode cX10_ringsNow 30 = .ok (.if_icmp .ne 14, 3) := by decide +kernel
theorem dX10_ringsNow_33 : decode cX10_ringsNow 33 = .ok (.iload_n 2, 1) := by decide +kernel
theorem dX10_ringsNow_34 : decode cX10_ringsNow 34 = .ok (.iload_n 1, 1) := by decide +kernel
theorem dX10_ringsNow_35 : decode cX10_ringsNow 35 = .ok (.if_icmp .ne 6, 3) := by decide +kernel
theorem dX10_ringsNow_38 : decode cX10_ringsNow 38 = .ok (.iload 4, 2) := by decide +kernel
theorem dX10_ringsNow_40 : decode cX10_ringsNow 40 = .ok (.ireturn, 1) := by decide +kernel
theorem dX10_ringsNow_41 : decode cX10_ringsNow 41 = .ok (.iinc 2 1, 3) := by decide +kernel
theorem dX10_ringsNow_44 : decode cX10_ringsNow 44 = .ok (.iinc 3 1, 3) := by decide +kernel
theorem dX10_ringsNow_47 : decode cX10_ringsNow 47 = .ok (.goto (-43), 3) := by decide +kernel
theorem dX10_ringsNow_50 : decode cX10_ringsNow 50 = .ok (.iload_n 1, 1) := by decide +kernel
theorem dX10_ringsNow_51 : decode cX10_ringsNow 51 = .ok (.iconst (-1), 1) := by decide +kernel
theorem dX10_ringsNow_52 : decode cX10_ringsNow 52 = .ok (.if_icmp .ne 7, 3) := by decide +kernel
theorem dX10_ringsNow_55 : decode cX10_ringsNow 55 = .ok (.iload_n 2, 1) := by decide +kernel
theorem dX10_ringsNow_56 : decode cX10_ringsNow 56 = .ok (.goto 4, 3) := by decide +kernel
theorem dX10_ringsNow_59 : decode cX10_ringsNow 59 = .ok (.iconst (-1), 1) := by decide +kernel
theorem dX10_ringsNow_60 : decode cX10_ringsNow 60 = .ok (.ireturn, 1) := by decide +kernel
theorem dX10_taken_0 : decode cX10_taken 0 = .ok (.iconst 0, 1) := by decide +kernel
theorem dX10_taken_1 : decode cX10_taken 1 = .ok (.istore_n 1, 1) := by decide +kernel
theorem dX10_taken_2 : decode cX10_taken 2 = .ok (.iconst 0, 1) := by decide +kernel
theorem dX10_taken_3 : decode cX10_taken 3 = .ok (.istore_n 2, 1) := by decide +kernel
theorem dX10_taken_4 : decode cX10_taken 4 = .ok (.iload_n 2, 1) := by decide +kernel
theorem dX10_taken_5 : decode cX10_taken 5 = .ok (.aload_n 0, 1) := by decide +kernel
theorem dX10_taken_6 : decode cX10_taken 6 = .ok (.getfield 85, 3) := by decide +kernel
theorem dX10_taken_9 : decode cX10_taken 9 = .ok (.if_icmp .ge 20, 3) := by decide +kernel
theorem dX10_taken_12 : decode cX10_taken 12 = .ok (.iload_n 1, 1) := by decide +kernel
theorem dX10_taken_13 : decode cX10_taken 13 = .ok (.iconst 1, 1) := by decide +kernel
theorem dX10_taken_14 : decode cX10_taken 14 = .ok (.aload_n 0, 1) := by decide +kernel
theorem dX10_taken_15 : decode cX10_taken 15 = .ok (.getfield 16, 3) := by decide +kernel
theorem dX10_taken_18 : decode cX10_taken 18 = .ok (.iload_n 2, 1) := by decide +kernel
theorem dX10_taken_19 : decode cX10_taken 19 = .ok (.iaload, 1) := by decide +kernel
theorem dX10_taken_20 : decode cX10_taken 20 = .ok (.ishl, 1) := by decide +kernel
theorem dX10_taken_21 : decode cX10_taken 21 = .ok (.ior, 1) := by decide +kernel
theorem dX10_taken_22 : decode cX10_taken 22 = .ok (.istore_n 1, 1) := by decide +kernel
theorem dX10_taken_23 : decode cX10_taken 23 = .ok (.iinc 2 1, 3) := by decide +kernel
theorem dX10_taken_26 : decode cX10_taken 26 = .ok (.goto (-22), 3) := by decide +kernel
theorem dX10_taken_29 : decode cX10_taken 29 = .ok (.iload_n 1, 1) := by decide +kernel
theorem dX10_taken_30 : decode cX10_taken 30 = .ok (.ireturn, 1) := by decide +kernel
theorem dX10_followers_0 : decode cX10_followers 0 = .ok (.iconst 0, 1) := by decide +kernel
theorem dX10_followers_1 : decode cX10_followers 1 = .ok (.istore_n 1, 1) := by decide +kernel
theorem dX10_followers_2 : decode cX10_followers 2 = .ok (.iconst 0, 1) := by decide +kernel
theorem dX10_followers_3 : decode cX10_followers 3 = .ok (.istore_n 2, 1) := by decide +kernel
theorem dX10_followers_4 : decode cX10_followers 4 = .ok (.iload_n 2, 1) := by decide +kernel
theorem dX10_followers_5 : decode cX10_followers 5 = .ok (.aload_n 0, 1) := by decide +kernel
theorem dX10_followers_6 : decode cX10_followers 6 = .ok (.getfield 85, 3) := by decide +kernel
theorem dX10_followers_9 : decode cX10_followers 9 = .ok (.if_icmp .ge 31, 3) := by decide +kernel
theorem dX10_followers_12 : decode cX10_followers 12 = .ok (.iload_n 1, 1) := by decide +kernel
theorem dX10_followers_13 : decode cX10_followers 13 = .ok (.aload_n 0, 1) := by decide +kernel
theorem dX10_followers_14 : decode cX10_followers 14 = .ok (.getfield 16, 3) := by decide +kernel
theorem dX10_followers_17 : decode cX10_followers 17 = .ok (.bipush 8, 2) := by decide +kernel
theorem dX10_followers_19 : decode cX10_followers 19 = .ok (.iload_n 2, 1) := by decide +kernel
theorem dX10_followers_20 : decode cX10_followers 20 = .ok (.iadd, 1) := by decide +kernel
theorem dX10_followers_21 : decode cX10_followers 21 = .ok (.iaload, 1) := by decide +kernel
theorem dX10_followers_22 : decode cX10_followers 22 = .ok (.ifCond .lt 9, 3) := by decide +kernel
theorem dX10_followers_25 : decode cX10_followers 25 = .ok (.iconst 1, 1) := by decide +kernel
theorem dX10_followers_26 : decode cX10_followers 26 = .ok (.iload_n 2, 1) := by decide +kernel
theorem dX10_followers_27 : decode cX10_followers 27 = .ok (.ishl, 1) := by decide +kernel
theorem dX10_followers_28 : decode cX10_followers 28 = .ok (.goto 4, 3) := by decide +kernel
theorem dX10_followers_31 : decode cX10_followers 31 = .ok (.iconst 0, 1) := by decide +kernel
theorem dX10_followers_32 : decode cX10_followers 32 = .ok (.ior, 1) := by decide +kernel
theorem dX10_followers_33 : decode cX10_followers 33 = .ok (.istore_n 1, 1) := by decide +kernel
theorem dX10_followers_34 : decode cX10_followers 34 = .ok (.iinc 2 1, 3) := by decide +kernel
theorem dX10_followers_37 : decode cX10_followers 37 = .ok (.goto (-33), 3) := by decide +kernel
theorem dX10_followers_40 : decode cX10_followers 40 = .ok (.iload_n 1, 1) := by decide +kernel
theorem dX10_followers_41 : decode cX10_followers 41 = .ok (.ireturn, 1) := by decide +kernel
theorem dX10_heads_0 : decode cX10_heads 0 = .ok (.iconst 0, 1) := by decide +kernel
theorem dX10_heads_1 : decode cX10_heads 1 = .ok (.istore_n 1, 1) := by decide +kernel
theorem dX10_heads_2 : decode cX10_heads 2 = .ok (.iconst 0, 1) := by decide +kernel
theorem dX10_heads_3 : decode cX10_heads 3 = .ok (.istore_n 2, 1) := by decide +kernel
theorem dX10_heads_4 : decode cX10_heads 4 = .ok (.iload_n 2, 1) := by decide +kernel
theorem dX10_heads_5 : decode cX10_heads 5 = .ok (.aload_n 0, 1) := by decide +kernel
theorem dX10_heads_6 : decode cX10_heads 6 = .ok (.getfield 85, 3) := by decide +kernel
theorem dX10_heads_9 : decode cX10_heads 9 = .ok (.if_icmp .ge 74, 3) := by decide +kernel
theorem dX10_heads_12 : decode cX10_heads 12 = .ok (.aload_n 0, 1) := by decide +kernel
theorem dX10_heads_13 : decode cX10_heads 13 = .ok (.iload_n 2, 1) := by decide +kernel
theorem dX10_heads_14 : decode cX10_heads 14 = .ok (.invokevirtual 173, 3) := by decide +kernel
theorem dX10_heads_17 : decode cX10_heads 17 = .ok (.iconst 1, 1) := by decide +kernel
theorem dX10_heads_18 : decode cX10_heads 18 = .ok (.iload_n 2, 1) := by decide +kernel
theorem dX10_heads_19 : decode cX10_heads 19 = .ok (.ishl, 1) := by decide +kernel
theorem dX10_heads_20 : decode cX10_heads 20 = .ok (.iconst (-1), 1) := by decide +kernel
theorem dX10_heads_21 : decode cX10_heads 21 = .ok (.ixor, 1) := by decide +kernel
theorem dX10_heads_22 : decode cX10_heads 22 = .ok (.iand, 1) := by decide +kernel
theorem dX10_heads_23 : decode cX10_heads 23 = .ok (.istore_n 3, 1) := by decide +kernel
theorem dX10_heads_24 : decode cX10_heads 24 = .ok (.iconst 0, 1) := by decide +kernel
theorem dX10_heads_25 : decode cX10_heads 25 = .ok (.istore 4, 2) := by decide +kernel
theorem dX10_heads_27 : decode cX10_heads 27 = .ok (.iload 4, 2) := by decide +kernel
theorem dX10_heads_29 : decode cX10_heads 29 = .ok (.aload_n 0, 1) := by decide +kernel
theorem dX10_heads_30 : decode cX10_heads 30 = .ok (.getfield 85, 3) := by decide +kernel
theorem dX10_heads_33 : decode cX10_heads 33 = .ok (.if_icmp .ge 44, 3) := by decide +kernel
theorem dX10_heads_36 : decode cX10_heads 36 = .ok (.iload_n 1, 1) := by decide +kernel
theorem dX10_heads_37 : decode cX10_heads 37 = .ok (.iload_n 3, 1) := by decide +kernel
theorem dX10_heads_38 : decode cX10_heads 38 = .ok (.iload 4, 2) := by decide +kernel
theorem dX10_heads_40 : decode cX10_heads 40 = .ok (.invokestatic 162, 3) := by decide +kernel
theorem dX10_heads_43 : decode cX10_heads 43 = .ok (.ifCond .eq 25, 3) := by decide +kernel
theorem dX10_heads_46 : decode cX10_heads 46 = .ok (.aload_n 0, 1) := by decide +kernel
theorem dX10_heads_47 : decode cX10_heads 47 = .ok (.getfield 16, 3) := by decide +kernel
theorem dX10_heads_50 : decode cX10_heads 50 = .ok (.iload 4, 2) := by decide +kernel
theorem dX10_heads_52 : decode cX10_heads 52 = .ok (.iaload, 1) := by decide +kernel
theorem dX10_heads_53 : decode cX10_heads 53 = .ok (.aload_n 0, 1) := by decide +kernel
theorem dX10_heads_54 : decode cX10_heads 54 = .ok (.getfield 16, 3) := by decide +kernel
theorem dX10_heads_57 : decode cX10_heads 57 = .ok (.iload_n 2, 1) := by decide +kernel
theorem dX10_heads_58 : decode cX10_heads 58 = .ok (.iaload, 1) := by decide +kernel
theorem dX10_heads_59 : decode cX10_heads 59 = .ok (.if_icmp .ne 9, 3) := by decide +kernel
theorem dX10_heads_62 : decode cX10_heads 62 = .ok (.iconst 1, 1) := by decide +kernel
theorem dX10_heads_63 : decode cX10_heads 63 = .ok (.iload_n 2, 1) := by decide +kernel
theorem dX10_heads_64 : decode cX10_heads 64 = .ok (.ishl, 1) := by decide +kernel
theorem dX10_heads_65 : decode cX10_heads 65 = .ok (.goto 4, 3) := by decide +kernel
theorem dX10_heads_68 : decode cX10_heads 68 = .ok (.iconst 0, 1) := by decide +kernel
theorem dX10_heads_69 : decode cX10_heads 69 = .ok (.ior, 1) := by decide +kernel
theorem dX10_heads_70 : decode cX10_heads 70 = .ok (.istore_n 1, 1) := by decide +kernel
theorem dX10_heads_71 : decode cX10_heads 71 = .ok (.iinc 4 1, 3) := by decide +kernel
theorem dX10_heads_74 : decode cX10_heads 74 = .ok (.goto (-47), 3) := by decide +kernel
theorem dX10_heads_77 : decode cX10_heads 77 = .ok (.iinc 2 1, 3) := by decide +kernel
theorem dX10_heads_80 : decode cX10_heads 80 = .ok (.goto (-76), 3) := by decide +kernel
theorem dX10_heads_83 : decode cX10_heads 83 = .ok (.iload_n 1, 1) := by decide +kernel
theorem dX10_heads_84 : decode cX10_heads 84 = .ok (.ireturn, 1) := by decide +kernel
theorem dX10_told_0 : decode cX10_told 0 = .ok (.iload_n 1, 1) := by decide +kernel
theorem dX10_told_1 : decode cX10_told 1 = .ok (.tableswitch 127 0 11 #[63, 68, 73, 78, 83, 91, 96, 101, 107, 112, 117, 122], 63) := by decide +kernel
theorem dX10_told_64 : decode cX10_told 64 = .ok (.aload_n 0, 1) := by decide +kernel
theorem dX10_told_65 : decode cX10_told 65 = .ok (.getfield 78, 3) := by decide +kernel
theorem dX10_told_68 : decode cX10_told 68 = .ok (.ireturn, 1) := by decide +kernel
theorem dX10_told_69 : decode cX10_told 69 = .ok (.aload_n 0, 1) := by decide +kernel
theorem dX10_told_70 : decode cX10_told 70 = .ok (.getfield 141, 3) := by decide +kernel
theorem dX10_told_73 : decode cX10_told 73 = .ok (.ireturn, 1) := by decide +kernel
theorem dX10_told_74 : decode cX10_told 74 = .ok (.aload_n 0, 1) := by decide +kernel
theorem dX10_told_75 : decode cX10_told 75 = .ok (.getfield 85, 3) := by decide +kernel
theorem dX10_told_78 : decode cX10_told 78 = .ok (.ireturn, 1) := by decide +kernel
theorem dX10_told_79 : decode cX10_told 79 = .ok (.aload_n 0, 1) := by decide +kernel
theorem dX10_told_80 : decode cX10_told 80 = .ok (.getfield 95, 3) := by decide +kernel
theorem dX10_told_83 : decode cX10_told 83 = .ok (.ireturn, 1) := by decide +kernel
theorem dX10_told_84 : decode cX10_told 84 = .ok (.aload_n 0, 1) := by decide +kernel
theorem dX10_told_85 : decode cX10_told 85 = .ok (.getfield 16, 3) := by decide +kernel
theorem dX10_told_88 : decode cX10_told 88 = .ok (.bipush 40, 2) := by decide +kernel
theorem dX10_told_90 : decode cX10_told 90 = .ok (.iaload, 1) := by decide +kernel
theorem dX10_told_91 : decode cX10_told 91 = .ok (.ireturn, 1) := by decide +kernel
theorem dX10_told_92 : decode cX10_told 92 = .ok (.aload_n 0, 1) := by decide +kernel
theorem dX10_told_93 : decode cX10_told 93 = .ok (.invokevirtual 176, 3) := by decide +kernel
theorem dX10_told_96 : decode cX10_told 96 = .ok (.ireturn, 1) := by decide +kernel
theorem dX10_told_97 : decode cX10_told 97 = .ok (.aload_n 0, 1) := by decide +kernel
theorem dX10_told_98 : decode cX10_told 98 = .ok (.invokevirtual 179, 3) := by decide +kernel
theorem dX10_told_101 : decode cX10_told 101 = .ok (.ireturn, 1) := by decide +kernel
theorem dX10_told_102 : decode cX10_told 102 = .ok (.aload_n 0, 1) := by decide +kernel
theorem dX10_told_103 : decode cX10_told 103 = .ok (.iconst (-1), 1) := by decide +kernel
theorem dX10_told_104 : decode cX10_told 104 = .ok (.invokevirtual 182, 3) := by decide +kernel
theorem dX10_told_107 : decode cX10_told 107 = .ok (.ireturn, 1) := by decide +kernel
theorem dX10_told_108 : decode cX10_told 108 = .ok (.aload_n 0, 1) := by decide +kernel
theorem dX10_told_109 : decode cX10_told 109 = .ok (.invokevirtual 185, 3) := by decide +kernel
theorem dX10_told_112 : decode cX10_told 112 = .ok (.ireturn, 1) := by decide +kernel
theorem dX10_told_113 : decode cX10_told 113 = .ok (.aload_n 0, 1) := by decide +kernel
theorem dX10_told_114 : decode cX10_told 114 = .ok (.getfield 150, 3) := by decide +kernel
theorem dX10_told_117 : decode cX10_told 117 = .ok (.ireturn, 1) := by decide +kernel
theorem dX10_told_118 : decode cX10_told 118 = .ok (.aload_n 0, 1) := by decide +kernel
theorem dX10_told_119 : decode cX10_told 119 = .ok (.getfield 153, 3) := by decide +kernel
theorem dX10_told_122 : decode cX10_told 122 = .ok (.ireturn, 1) := by decide +kernel
theorem dX10_told_123 : decode cX10_told 123 = .ok (.aload_n 0, 1) := by decide +kernel
theorem dX10_told_124 : decode cX10_told 124 = .ok (.getfield 156, 3) := by decide +kernel
theorem dX10_told_127 : decode cX10_told 127 = .ok (.ireturn, 1) := by decide +kernel
theorem dX10_told_128 : decode cX10_told 128 = .ok (.ldc 94, 2) := by decide +kernel
theorem dX10_told_130 : decode cX10_told 130 = .ok (.ireturn, 1) := by decide +kernel
theorem dX10_car_0 : decode cX10_car 0 = .ok (.aload_n 0, 1) := by decide +kernel
theorem dX10_car_1 : decode cX10_car 1 = .ok (.iload_n 1, 1) := by decide +kernel
theorem dX10_car_2 : decode cX10_car 2 = .ok (.invokevirtual 88, 3) := by decide +kernel
theorem dX10_car_5 : decode cX10_car 5 = .ok (.ifCond .ne 6, 3) := by decide +kernel
theorem dX10_car_8 : decode cX10_car 8 = .ok (.ldc 188, 2) := by decide +kernel
theorem dX10_car_10 : decode cX10_car 10 = .ok (.ireturn, 1) := by decide +kernel
theorem dX10_car_11 : decode cX10_car 11 = .ok (.iload_n 2, 1) := by decide +kernel
theorem dX10_car_12 : decode cX10_car 12 = .ok (.tableswitch 79 0 4 #[36, 43, 53, 59, 69], 36) := by decide +kernel
theorem dX10_car_48 : decode cX10_car 48 = .ok (.aload_n 0, 1) := by decide +kernel
theorem dX10_car_49 : decode cX10_car 49 = .ok (.getfield 16, 3) := by decide +kernel
theorem dX10_car_52 : decode cX10_car 52 = .ok (.iload_n 1, 1) := by decide +kernel
theorem dX10_car_53 : decode cX10_car 53 = .ok (.iaload, 1) := by decide +kernel
theorem dX10_car_54 : decode cX10_car 54 = .ok (.ireturn, 1) := by decide +kernel
theorem dX10_car_55 : decode cX10_car 55 = .ok (.aload_n 0, 1) := by decide +kernel
theorem dX10_car_56 : decode cX10_car 56 = .ok (.getfield 16, 3) := by decide +kernel
theorem dX10_car_59 : decode cX10_car 59 = .ok (.bipush 8, 2) := by decide +kernel
theorem dX10_car_61 : decode cX10_car 61 = .ok (.iload_n 1, 1) := by decide +kernel
theorem dX10_car_62 : decode cX10_car 62 = .ok (.iadd, 1) := by decide +kernel
theorem dX10_car_63 : decode cX10_car 63 = .ok (.iaload, 1) := by decide +kernel
theorem dX10_car_64 : decode cX10_car 64 = .ok (.ireturn, 1) := by decide +kernel
theorem dX10_car_65 : decode cX10_car 65 = .ok (.aload_n 0, 1) := by decide +kernel
theorem dX10_car_66 : decode cX10_car 66 = .ok (.iload_n 1, 1) := by decide +kernel
theorem dX10_car_67 : decode cX10_car 67 = .ok (.invokevirtual 189, 3) := by decide +kernel
theorem dX10_car_70 : decode cX10_car 70 = .ok (.ireturn, 1) := by decide +kernel
theorem dX10_car_71 : decode cX10_car 71 = .ok (.aload_n 0, 1) := by decide +kernel
theorem dX10_car_72 : decode cX10_car 72 = .ok (.getfield 16, 3) := by decide +kernel
theorem dX10_car_75 : decode cX10_car 75 = .ok (.bipush 16, 2) := by decide +kernel
theorem dX10_car_77 : decode cX10_car 77 = .ok (.iload_n 1, 1) := by decide +kernel
theorem dX10_car_78 : decode cX10_car 78 = .ok (.iadd, 1) := by decide +kernel
theorem dX10_car_79 : decode cX10_car 79 = .ok (.iaload, 1) := by decide +kernel
theorem dX10_car_80 : decode cX10_car 80 = .ok (.ireturn, 1) := by decide +kernel
theorem dX10_car_81 : decode cX10_car 81 = .ok (.aload_n 0, 1) := by decide +kernel
theorem dX10_car_82 : decode cX10_car 82 = .ok (.getfield 16, 3) := by decide +kernel
theorem dX10_car_85 : decode cX10_car 85 = .ok (.bipush 24, 2) := by decide +kernel
theorem dX10_car_87 : decode cX10_car 87 = .ok (.iload_n 1, 1) := by decide +kernel
theorem dX10_car_88 : decode cX10_car 88 = .ok (.iadd, 1) := by decide +kernel
theorem dX10_car_89 : decode cX10_car 89 = .ok (.iaload, 1) := by decide +kernel
theorem dX10_car_90 : decode cX10_car 90 = .ok (.ireturn, 1) := by decide +kernel
theorem dX10_car_91 : decode cX10_car 91 = .ok (.ldc 94, 2) := by decide +kernel
theorem dX10_car_93 : decode cX10_car 93 = .ok (.ireturn, 1) := by decide +kernel
theorem dX10_remember_0 : decode cX10_remember 0 = .ok (.aload_n 0, 1) := by decide +kernel
theorem dX10_remember_1 : decode cX10_remember 1 = .ok (.getfield 156, 3) := by decide +kernel
theorem dX10_remember_4 : decode cX10_remember 4 = .ok (.bipush 20, 2) := by decide +kernel
theorem dX10_remember_6 : decode cX10_remember 6 = .ok (.if_icmp .ne 44, 3) := by decide +kernel
theorem dX10_remember_9 : decode cX10_remember 9 = .ok (.bipush 41, 2) := by decide +kernel
theorem dX10_remember_11 : decode cX10_remember 11 = .ok (.istore_n 1, 1) := by decide +kernel
theorem dX10_remember_12 : decode cX10_remember 12 = .ok (.iload_n 1, 1) := by decide +kernel
theorem dX10_remember_13 : decode cX10_remember 13 = .ok (.sipush 820, 3) := by decide +kernel
theorem dX10_remember_16 : decode cX10_remember 16 = .ok (.if_icmp .ge 24, 3) := by decide +kernel
theorem dX10_remember_19 : decode cX10_remember 19 = .ok (.aload_n 0, 1) := by decide +kernel
theorem dX10_remember_20 : decode cX10_remember 20 = .ok (.getfield 44, 3) := by decide +kernel
theorem dX10_remember_23 : decode cX10_remember 23 = .ok (.iload_n 1, 1) := by decide +kernel
theorem dX10_remember_24 : decode cX10_remember 24 = .ok (.bipush 41, 2) := by decide +kernel
theorem dX10_remember_26 : decode cX10_remember 26 = .ok (.isub, 1) := by decide +kernel
theorem dX10_remember_27 : decode cX10_remember 27 = .ok (.aload_n 0, 1) := by decide +kernel
theorem dX10_remember_28 : decode cX10_remember 28 = .ok (.getfield 44, 3) := by decide +kernel
theorem dX10_remember_31 : decode cX10_remember 31 = .ok (.iload_n 1, 1) := by decide +kernel
theorem dX10_remember_32 : decode cX10_remember 32 = .ok (.iaload, 1) := by decide +kernel
theorem dX10_remember_33 : decode cX10_remember 33 = .ok (.iastore, 1) := by decide +kernel
theorem dX10_remember_34 : decode cX10_remember 34 = .ok (.iinc 1 1, 3) := by decide +kernel
theorem dX10_remember_37 : decode cX10_remember 37 = .ok (.goto (-25), 3) := by decide +kernel
theorem dX10_remember_40 : decode cX10_remember 40 = .ok (.aload_n 0, 1) := by decide +kernel
theorem dX10_remember_41 : decode cX10_remember 41 = .ok (.dup, 1) := by decide +kernel
theorem dX10_remember_42 : decode cX10_remember 42 = .ok (.getfield 156, 3) := by decide +kernel
theorem dX10_remember_45 : decode cX10_remember 45 = .ok (.iconst 1, 1) := by decide +kernel
theorem dX10_remember_46 : decode cX10_remember 46 = .ok (.isub, 1) := by decide +kernel
theorem dX10_remember_47 : decode cX10_remember 47 = .ok (.putfield 156, 3) := by decide +kernel
theorem dX10_remember_50 : decode cX10_remember 50 = .ok (.iconst 0, 1) := by decide +kernel
theorem dX10_remember_51 : decode cX10_remember 51 = .ok (.istore_n 1, 1) := by decide +kernel
theorem dX10_remember_52 : decode cX10_remember 52 = .ok (.iload_n 1, 1) := by decide +kernel
theorem dX10_remember_53 : decode cX10_remember 53 = .ok (.bipush 41, 2) := by decide +kernel
theorem dX10_remember_55 : decode cX10_remember 55 = .ok (.if_icmp .ge 29, 3) := by decide +kernel
theorem dX10_remember_58 : decode cX10_remember 58 = .ok (.aload_n 0, 1) := by decide +kernel
theorem dX10_remember_59 : decode cX10_remember 59 = .ok (.getfield 44, 3) := by decide +kernel
theorem dX10_remember_62 : decode cX10_remember 62 = .ok (.bipush 41, 2) := by decide +kernel
theorem dX10_remember_64 : decode cX10_remember 64 = .ok (.aload_n 0, 1) := by decide +kernel
theorem dX10_remember_65 : decode cX10_remember 65 = .ok (.getfield 156, 3) := by decide +kernel
theorem dX10_remember_68 : decode cX10_remember 68 = .ok (.imul, 1) := by decide +kernel
theorem dX10_remember_69 : decode cX10_remember 69 = .ok (.iload_n 1, 1) := by decide +kernel
theorem dX10_remember_70 : decode cX10_remember 70 = .ok (.iadd, 1) := by decide +kernel
theorem dX10_remember_71 : decode cX10_remember 71 = .ok (.aload_n 0, 1) := by decide +kernel
theorem dX10_remember_72 : decode cX10_remember 72 = .ok (.getfield 16, 3) := by decide +kernel
theorem dX10_remember_75 : decode cX10_remember 75 = .ok (.iload_n 1, 1) := by decide +kernel
theorem dX10_remember_76 : decode cX10_remember 76 = .ok (.iaload, 1) := by decide +kernel
theorem dX10_remember_77 : decode cX10_remember 77 = .ok (.iastore, 1) := by decide +kernel
theorem dX10_remember_78 : decode cX10_remember 78 = .ok (.iinc 1 1, 3) := by decide +kernel
theorem dX10_remember_81 : decode cX10_remember 81 = .ok (.goto (-29), 3) := by decide +kernel
theorem dX10_remember_84 : decode cX10_remember 84 = .ok (.aload_n 0, 1) := by decide +kernel
theorem dX10_remember_85 : decode cX10_remember 85 = .ok (.dup, 1) := by decide +kernel
theorem dX10_remember_86 : decode cX10_remember 86 = .ok (.getfield 156, 3) := by decide +kernel
theorem dX10_remember_89 : decode cX10_remember 89 = .ok (.iconst 1, 1) := by decide +kernel
theorem dX10_remember_90 : decode cX10_remember 90 = .ok (.iadd, 1) := by decide +kernel
theorem dX10_remember_91 : decode cX10_remember 91 = .ok (.putfield 156, 3) := by decide +kernel
theorem dX10_remember_94 : decode cX10_remember 94 = .ok (.return_, 1) := by decide +kernel
theorem dX10_stepsRefused_0 : decode cX10_stepsRefused 0 = .ok (.iload_n 1, 1) := by decide +kernel
theorem dX10_stepsRefused_1 : decode cX10_stepsRefused 1 = .ok (.i2l, 1) := by decide +kernel
theorem dX10_stepsRefused_2 : decode cX10_stepsRefused 2 = .ok (.lconst 1, 1) := by decide +kernel
theorem dX10_stepsRefused_3 : decode cX10_stepsRefused 3 = .ok (.ldc2_w 192, 3) := by decide +kernel
theorem dX10_stepsRefused_6 : decode cX10_stepsRefused 6 = .ok (.invokestatic 81, 3) := by decide +kernel
theorem dX10_stepsRefused_9 : decode cX10_stepsRefused 9 = .ok (.ifCond .ne 6, 3) := by decide +kernel
theorem dX10_stepsRefused_12 : decode cX10_stepsRefused 12 = .ok (.ldc 94, 2) := by decide +kernel
theorem dX10_stepsRefused_14 : decode cX10_stepsRefused 14 = .ok (.ireturn, 1) := by decide +kernel
theorem dX10_stepsRefused_15 : decode cX10_stepsRefused 15 = .ok (.aload_n 0, 1) := by decide +kernel
theorem dX10_stepsRefused_16 : decode cX10_stepsRefused 16 = .ok (.getfield 78, 3) := by decide +kernel
theorem dX10_stepsRefused_19 : decode cX10_stepsRefused 19 = .ok (.ifCond .ne 8, 3) := by decide +kernel
theorem dX10_stepsRefused_22 : decode cX10_stepsRefused 22 = .ok (.ldc 194, 2) := by decide +kernel
theorem dX10_stepsRefused_24 : decode cX10_stepsRefused 24 = .ok (.goto 22, 3) := by decide +kernel
theorem dX10_stepsRefused_27 : decode cX10_stepsRefused 27 = .ok (.aload_n 0, 1) := by decide +kernel
theorem dX10_stepsRefused_28 : decode cX10_stepsRefused 28 = .ok (.getfield 16, 3) := by decide +kernel
theorem dX10_stepsRefused_31 : decode cX10_stepsRefused 31 = .ok (.bipush 40, 2) := by decide +kernel
theorem dX10_stepsRefused_33 : decode cX10_stepsRefused 33 = .ok (.iaload, 1) := by decide +kernel
theorem dX10_stepsRefused_34 : decode cX10_stepsRefused 34 = .ok (.sipush 9000, 3) := by decide +kernel
theorem dX10_stepsRefused_37 : decode cX10_stepsRefused 37 = .ok (.if_icmp .le 8, 3) := by decide +kernel
theorem dX10_stepsRefused_40 : decode cX10_stepsRefused 40 = .ok (.ldc 98, 2) := by decide +kernel
theorem dX10_stepsRefused_42 : decode cX10_stepsRefused 42 = .ok (.goto 4, 3) := by decide +kernel
theorem dX10_stepsRefused_45 : decode cX10_stepsRefused 45 = .ok (.iconst 0, 1) := by decide +kernel
theorem dX10_stepsRefused_46 : decode cX10_stepsRefused 46 = .ok (.ireturn, 1) := by decide +kernel
theorem dX10_step_0 : decode cX10_step 0 = .ok (.aload_n 0, 1) := by decide +kernel
theorem dX10_step_1 : decode cX10_step 1 = .ok (.iload_n 1, 1) := by decide +kernel
theorem dX10_step_2 : decode cX10_step 2 = .ok (.invokevirtual 195, 3) := by decide +kernel
theorem dX10_step_5 : decode cX10_step 5 = .ok (.istore_n 2, 1) := by decide +kernel
theorem dX10_step_6 : decode cX10_step 6 = .ok (.iload_n 2, 1) := by decide +kernel
theorem dX10_step_7 : decode cX10_step 7 = .ok (.ifCond .eq 5, 3) := by decide +kernel
theorem dX10_step_10 : decode cX10_step 10 = .ok (.iload_n 2, 1) := by decide +kernel
theorem dX10_step_11 : decode cX10_step 11 = .ok (.ireturn, 1) := by decide +kernel
theorem dX10_step_12 : decode cX10_step 12 = .ok (.aload_n 0, 1) := by decide +kernel
theorem dX10_step_13 : decode cX10_step 13 = .ok (.invokevirtual 198, 3) := by decide +kernel
theorem dX10_step_16 : decode cX10_step 16 = .ok (.iconst 0, 1) := by decide +kernel
theorem dX10_step_17 : decode cX10_step 17 = .ok (.istore_n 3, 1) := by decide +kernel
theorem dX10_step_18 : decode cX10_step 18 = .ok (.iload_n 3, 1) := by decide +kernel
theorem dX10_step_19 : decode cX10_step 19 = .ok (.iload_n 1, 1) := by decide +kernel
theorem dX10_step_20 : decode cX10_step 20 = .ok (.if_icmp .ge 13, 3) := by decide +kernel
theorem dX10_step_23 : decode cX10_step 23 = .ok (.aload_n 0, 1) := by decide +kernel
theorem dX10_step_24 : decode cX10_step 24 = .ok (.invokevirtual 201, 3) := by decide +kernel
theorem dX10_step_27 : decode cX10_step 27 = .ok (.iinc 3 1, 3) := by decide +kernel
theorem dX10_step_30 : decode cX10_step 30 = .ok (.goto (-12), 3) := by decide +kernel
theorem dX10_step_33 : decode cX10_step 33 = .ok (.aload_n 0, 1) := by decide +kernel
theorem dX10_step_34 : decode cX10_step 34 = .ok (.getfield 16, 3) := by decide +kernel
theorem dX10_step_37 : decode cX10_step 37 = .ok (.bipush 40, 2) := by decide +kernel
theorem dX10_step_39 : decode cX10_step 39 = .ok (.iaload, 1) := by decide +kernel
theorem dX10_step_40 : decode cX10_step 40 = .ok (.ireturn, 1) := by decide +kernel
theorem dX10_follow_0 : decode cX10_follow 0 = .ok (.aload_n 0, 1) := by decide +kernel
theorem dX10_follow_1 : decode cX10_follow 1 = .ok (.iload_n 1, 1) := by decide +kernel
theorem dX10_follow_2 : decode cX10_follow 2 = .ok (.iload_n 2, 1) := by decide +kernel
theorem dX10_follow_3 : decode cX10_follow 3 = .ok (.invokevirtual 204, 3) := by decide +kernel
theorem dX10_follow_6 : decode cX10_follow 6 = .ok (.ifCond .ne 6, 3) := by decide +kernel
theorem dX10_follow_9 : decode cX10_follow 9 = .ok (.ldc 188, 2) := by decide +kernel
theorem dX10_follow_11 : decode cX10_follow 11 = .ok (.ireturn, 1) := by decide +kernel
theorem dX10_follow_12 : decode cX10_follow 12 = .ok (.aload_n 0, 1) := by decide +kernel
theorem dX10_follow_13 : decode cX10_follow 13 = .ok (.invokevirtual 198, 3) := by decide +kernel
theorem dX10_follow_16 : decode cX10_follow 16 = .ok (.aload_n 0, 1) := by decide +kernel
theorem dX10_follow_17 : decode cX10_follow 17 = .ok (.getfield 16, 3) := by decide +kernel
theorem dX10_follow_20 : decode cX10_follow 20 = .ok (.bipush 8, 2) := by decide +kernel
theorem dX10_follow_22 : decode cX10_follow 22 = .ok (.iload_n 1, 1) := by decide +kernel
theorem dX10_follow_23 : decode cX10_follow 23 = .ok (.iadd, 1) := by decide +kernel
theorem dX10_follow_24 : decode cX10_follow 24 = .ok (.iaload, 1) := by decide +kernel
theorem dX10_follow_25 : decode cX10_follow 25 = .ok (.istore_n 3, 1) := by decide +kernel
theorem dX10_follow_26 : decode cX10_follow 26 = .ok (.aload_n 0, 1) := by decide +kernel
theorem dX10_follow_27 : decode cX10_follow 27 = .ok (.getfield 16, 3) := by decide +kernel
theorem dX10_follow_30 : decode cX10_follow 30 = .ok (.bipush 8, 2) := by decide +kernel
theorem dX10_follow_32 : decode cX10_follow 32 = .ok (.iload_n 1, 1) := by decide +kernel
theorem dX10_follow_33 : decode cX10_follow 33 = .ok (.iadd, 1) := by decide +kernel
theorem dX10_follow_34 : decode cX10_follow 34 = .ok (.iload_n 2, 1) := by decide +kernel
theorem dX10_follow_35 : decode cX10_follow 35 = .ok (.iastore, 1) := by decide +kernel
theorem dX10_follow_36 : decode cX10_follow 36 = .ok (.iload_n 3, 1) := by decide +kernel
theorem dX10_follow_37 : decode cX10_follow 37 = .ok (.ireturn, 1) := by decide +kernel
theorem dX10_letOff_0 : decode cX10_letOff 0 = .ok (.aload_n 0, 1) := by decide +kernel
theorem dX10_letOff_1 : decode cX10_letOff 1 = .ok (.iload_n 1, 1) := by decide +kernel
theorem dX10_letOff_2 : decode cX10_letOff 2 = .ok (.invokevirtual 88, 3) := by decide +kernel
theorem dX10_letOff_5 : decode cX10_letOff 5 = .ok (.ifCond .ne 6, 3) := by decide +kernel
theorem dX10_letOff_8 : decode cX10_letOff 8 = .ok (.ldc 188, 2) := by decide +kernel
theorem dX10_letOff_10 : decode cX10_letOff 10 = .ok (.ireturn, 1) := by decide +kernel
theorem dX10_letOff_11 : decode cX10_letOff 11 = .ok (.aload_n 0, 1) := by decide +kernel
theorem dX10_letOff_12 : decode cX10_letOff 12 = .ok (.getfield 16, 3) := by decide +kernel
theorem dX10_letOff_15 : decode cX10_letOff 15 = .ok (.bipush 8, 2) := by decide +kernel
theorem dX10_letOff_17 : decode cX10_letOff 17 = .ok (.iload_n 1, 1) := by decide +kernel
theorem dX10_letOff_18 : decode cX10_letOff 18 = .ok (.iadd, 1) := by decide +kernel
theorem dX10_letOff_19 : decode cX10_letOff 19 = .ok (.iaload, 1) := by decide +kernel
theorem dX10_letOff_20 : decode cX10_letOff 20 = .ok (.ifCond .ge 6, 3) := by decide +kernel
theorem dX10_letOff_23 : decode cX10_letOff 23 = .ok (.ldc 194, 2) := by decide +kernel
theorem dX10_letOff_25 : decode cX10_letOff 25 = .ok (.ireturn, 1) := by decide +kernel
theorem dX10_letOff_26 : decode cX10_letOff 26 = .ok (.aload_n 0, 1) := by decide +kernel
theorem dX10_letOff_27 : decode cX10_letOff 27 = .ok (.invokevirtual 198, 3) := by decide +kernel
theorem dX10_letOff_30 : decode cX10_letOff 30 = .ok (.aload_n 0, 1) := by decide +kernel
theorem dX10_letOff_31 : decode cX10_letOff 31 = .ok (.getfield 16, 3) := by decide +kernel
theorem dX10_letOff_34 : decode cX10_letOff 34 = .ok (.bipush 8, 2) := by decide +kernel
theorem dX10_letOff_36 : decode cX10_letOff 36 = .ok (.iload_n 1, 1) := by decide +kernel
theorem dX10_letOff_37 : decode cX10_letOff 37 = .ok (.iadd, 1) := by decide +kernel
theorem dX10_letOff_38 : decode cX10_letOff 38 = .ok (.iaload, 1) := by decide +kernel
theorem dX10_letOff_39 : decode cX10_letOff 39 = .ok (.istore_n 2, 1) := by decide +kernel
theorem dX10_letOff_40 : decode cX10_letOff 40 = .ok (.aload_n 0, 1) := by decide +kernel
theorem dX10_letOff_41 : decode cX10_letOff 41 = .ok (.getfield 16, 3) := by decide +kernel
theorem dX10_letOff_44 : decode cX10_letOff 44 = .ok (.bipush 8, 2) := by decide +kernel
theorem dX10_letOff_46 : decode cX10_letOff 46 = .ok (.iload_n 1, 1) := by decide +kernel
theorem dX10_letOff_47 : decode cX10_letOff 47 = .ok (.iadd, 1) := by decide +kernel
theorem dX10_letOff_48 : decode cX10_letOff 48 = .ok (.iconst (-1), 1) := by decide +kernel
theorem dX10_letOff_49 : decode cX10_letOff 49 = .ok (.iastore, 1) := by decide +kernel
theorem dX10_letOff_50 : decode cX10_letOff 50 = .ok (.iload_n 2, 1) := by decide +kernel
theorem dX10_letOff_51 : decode cX10_letOff 51 = .ok (.ireturn, 1) := by decide +kernel
theorem dX10_turn_0 : decode cX10_turn 0 = .ok (.aload_n 0, 1) := by decide +kernel
theorem dX10_turn_1 : decode cX10_turn 1 = .ok (.iload_n 1, 1) := by decide +kernel
theorem dX10_turn_2 : decode cX10_turn 2 = .ok (.invokevirtual 88, 3) := by decide +kernel
theorem dX10_turn_5 : decode cX10_turn 5 = .ok (.ifCond .ne 6, 3) := by decide +kernel
theorem dX10_turn_8 : decode cX10_turn 8 = .ok (.ldc 188, 2) := by decide +kernel
theorem dX10_turn_10 : decode cX10_turn 10 = .ok (.ireturn, 1) := by decide +kernel
theorem dX10_turn_11 : decode cX10_turn 11 = .ok (.aload_n 0, 1) := by decide +kernel
theorem dX10_turn_12 : decode cX10_turn 12 = .ok (.invokevirtual 198, 3) := by decide +kernel
theorem dX10_turn_15 : decode cX10_turn 15 = .ok (.aload_n 0, 1) := by decide +kernel
theorem dX10_turn_16 : decode cX10_turn 16 = .ok (.getfield 16, 3) := by decide +kernel
theorem dX10_turn_19 : decode cX10_turn 19 = .ok (.bipush 32, 2) := by decide +kernel
theorem dX10_turn_21 : decode cX10_turn 21 = .ok (.iload_n 1, 1) := by decide +kernel
theorem dX10_turn_22 : decode cX10_turn 22 = .ok (.iadd, 1) := by decide +kernel
theorem dX10_turn_23 : decode cX10_turn 23 = .ok (.iconst 1, 1) := by decide +kernel
theorem dX10_turn_24 : decode cX10_turn 24 = .ok (.aload_n 0, 1) := by decide +kernel
theorem dX10_turn_25 : decode cX10_turn 25 = .ok (.getfield 16, 3) := by decide +kernel
theorem dX10_turn_28 : decode cX10_turn 28 = .ok (.bipush 32, 2) := by decide +kernel
theorem dX10_turn_30 : decode cX10_turn 30 = .ok (.iload_n 1, 1) := by decide +kernel
theorem dX10_turn_31 : decode cX10_turn 31 = .ok (.iadd, 1) := by decide +kernel
theorem dX10_turn_32 : decode cX10_turn 32 = .ok (.iaload, 1) := by decide +kernel
theorem dX10_turn_33 : decode cX10_turn 33 = .ok (.isub, 1) := by decide +kernel
theorem dX10_turn_34 : decode cX10_turn 34 = .ok (.iastore, 1) := by decide +kernel
theorem dX10_turn_35 : decode cX10_turn 35 = .ok (.aload_n 0, 1) := by decide +kernel
theorem dX10_turn_36 : decode cX10_turn 36 = .ok (.getfield 16, 3) := by decide +kernel
theorem dX10_turn_39 : decode cX10_turn 39 = .ok (.bipush 16, 2) := by decide +kernel
theorem dX10_turn_41 : decode cX10_turn 41 = .ok (.iload_n 1, 1) := by decide +kernel
theorem dX10_turn_42 : decode cX10_turn 42 = .ok (.iadd, 1) := by decide +kernel
theorem dX10_turn_43 : decode cX10_turn 43 = .ok (.iconst 0, 1) := by decide +kernel
theorem dX10_turn_44 : decode cX10_turn 44 = .ok (.iastore, 1) := by decide +kernel
theorem dX10_turn_45 : decode cX10_turn 45 = .ok (.aload_n 0, 1) := by decide +kernel
theorem dX10_turn_46 : decode cX10_turn 46 = .ok (.iload_n 1, 1) := by decide +kernel
theorem dX10_turn_47 : decode cX10_turn 47 = .ok (.invokevirtual 189, 3) := by decide +kernel
theorem dX10_turn_50 : decode cX10_turn 50 = .ok (.ireturn, 1) := by decide +kernel
theorem dX10_draw_0 : decode cX10_draw 0 = .ok (.aload_n 0, 1) := by decide +kernel
theorem dX10_draw_1 : decode cX10_draw 1 = .ok (.aload_n 0, 1) := by decide +kernel
theorem dX10_draw_2 : decode cX10_draw 2 = .ok (.getfield 207, 3) := by decide +kernel
theorem dX10_draw_5 : decode cX10_draw 5 = .ok (.i2l, 1) := by decide +kernel
theorem dX10_draw_6 : decode cX10_draw 6 = .ok (.ldc2_w 210, 3) := by decide +kernel
theorem dX10_draw_9 : decode cX10_draw 9 = .ok (.lmul, 1) := by decide +kernel
theorem dX10_draw_10 : decode cX10_draw 10 = .ok (.ldc2_w 212, 3) := by decide +kernel
theorem dX10_draw_13 : decode cX10_draw 13 = .ok (.ladd, 1) := by decide +kernel
theorem dX10_draw_14 : decode cX10_draw 14 = .ok (.ldc2_w 214, 3) := by decide +kernel
theorem dX10_draw_17 : decode cX10_draw 17 = .ok (.lrem, 1) := by decide +kernel
theorem dX10_draw_18 : decode cX10_draw 18 = .ok (.l2i, 1) := by decide +kernel
theorem dX10_draw_19 : decode cX10_draw 19 = .ok (.putfield 207, 3) := by decide +kernel
theorem dX10_draw_22 : decode cX10_draw 22 = .ok (.aload_n 0, 1) := by decide +kernel
theorem dX10_draw_23 : decode cX10_draw 23 = .ok (.getfield 207, 3) := by decide +kernel
theorem dX10_draw_26 : decode cX10_draw 26 = .ok (.ldc 216, 2) := by decide +kernel
theorem dX10_draw_28 : decode cX10_draw 28 = .ok (.idiv, 1) := by decide +kernel
theorem dX10_draw_29 : decode cX10_draw 29 = .ok (.iload_n 1, 1) := by decide +kernel
theorem dX10_draw_30 : decode cX10_draw 30 = .ok (.irem, 1) := by decide +kernel
theorem dX10_draw_31 : decode cX10_draw 31 = .ok (.ireturn, 1) := by decide +kernel
theorem dX10_chance_0 : decode cX10_chance 0 = .ok (.aload_n 0, 1) := by decide +kernel
theorem dX10_chance_1 : decode cX10_chance 1 = .ok (.aload_n 0, 1) := by decide +kernel
theorem dX10_chance_2 : decode cX10_chance 2 = .ok (.getfield 85, 3) := by decide +kernel
theorem dX10_chance_5 : decode cX10_chance 5 = .ok (.invokevirtual 217, 3) := by decide +kernel
theorem dX10_chance_8 : decode cX10_chance 8 = .ok (.istore_n 1, 1) := by decide +kernel
theorem dX10_chance_9 : decode cX10_chance 9 = .ok (.aload_n 0, 1) := by decide +kernel
theorem dX10_chance_10 : decode cX10_chance 10 = .ok (.bipush 100, 2) := by decide +kernel
theorem dX10_chance_12 : decode cX10_chance 12 = .ok (.invokevirtual 217, 3) := by decide +kernel
theorem dX10_chance_15 : decode cX10_chance 15 = .ok (.istore_n 2, 1) := by decide +kernel
theorem dX10_chance_16 : decode cX10_chance 16 = .ok (.iload_n 2, 1) := by decide +kernel
theorem dX10_chance_17 : decode cX10_chance 17 = .ok (.aload_n 0, 1) := by decide +kernel
theorem dX10_chance_18 : decode cX10_chance 18 = .ok (.getfield 141, 3) := by decide +kernel
theorem dX10_chance_21 : decode cX10_chance 21 = .ok (.if_icmp .ge 39, 3) := by decide +kernel
theorem dX10_chance_24 : decode cX10_chance 24 = .ok (.aload_n 0, 1) := by decide +kernel
theorem dX10_chance_25 : decode cX10_chance 25 = .ok (.aload_n 0, 1) := by decide +kernel
theorem dX10_chance_26 : decode cX10_chance 26 = .ok (.getfield 85, 3) := by decide +kernel
theorem dX10_chance_29 : decode cX10_chance 29 = .ok (.invokevirtual 217, 3) := by decide +kernel
theorem dX10_chance_32 : decode cX10_chance 32 = .ok (.istore_n 3, 1) := by decide +kernel
theorem dX10_chance_33 : decode cX10_chance 33 = .ok (.aload_n 0, 1) := by decide +kernel
theorem dX10_chance_34 : decode cX10_chance 34 = .ok (.getfield 16, 3) := by decide +kernel
theorem dX10_chance_37 : decode cX10_chance 37 = .ok (.bipush 8, 2) := by decide +kernel
theorem dX10_chance_39 : decode cX10_chance 39 = .ok (.iload_n 1, 1) := by decide +kernel
theorem dX10_chance_40 : decode cX10_chance 40 = .ok (.iadd, 1) := by decide +kernel
theorem dX10_chance_41 : decode cX10_chance 41 = .ok (.iload_n 1, 1) := by decide +kernel
theorem dX10_chance_42 : decode cX10_chance 42 = .ok (.iload_n 3, 1) := by decide +kernel
theorem dX10_chance_43 : decode cX10_chance 43 = .ok (.if_icmp .ne 15, 3) := by decide +kernel
theorem dX10_chance_46 : decode cX10_chance 46 = .ok (.aload_n 0, 1) := by decide +kernel
theorem dX10_chance_47 : decode cX10_chance 47 = .ok (.getfield 16, 3) := by decide +kernel
theorem dX10_chance_50 : decode cX10_chance 50 = .ok (.bipush 8, 2) := by decide +kernel
theorem dX10_chance_52 : decode cX10_chance 52 = .ok (.iload_n 1, 1) := by decide +kernel
theorem dX10_chance_53 : decode cX10_chance 53 = .ok (.iadd, 1) := by decide +kernel
theorem dX10_chance_54 : decode cX10_chance 54 = .ok (.iaload, 1) := by decide +kernel
theorem dX10_chance_55 : decode cX10_chance 55 = .ok (.goto 4, 3) := by decide +kernel
theorem dX10_chance_58 : decode cX10_chance 58 = .ok (.iload_n 3, 1) := by decide +kernel
theorem dX10_chance_59 : decode cX10_chance 59 = .ok (.iastore, 1) := by decide +kernel
theorem dX10_chance_60 : decode cX10_chance 60 = .ok (.return_, 1) := by decide +kernel
theorem dX10_drift_0 : decode cX10_drift 0 = .ok (.aload_n 0, 1) := by decide +kernel
theorem dX10_drift_1 : decode cX10_drift 1 = .ok (.iload_n 1, 1) := by decide +kernel
theorem dX10_drift_2 : decode cX10_drift 2 = .ok (.invokevirtual 195, 3) := by decide +kernel
theorem dX10_drift_5 : decode cX10_drift 5 = .ok (.istore_n 2, 1) := by decide +kernel
theorem dX10_drift_6 : decode cX10_drift 6 = .ok (.iload_n 2, 1) := by decide +kernel
theorem dX10_drift_7 : decode cX10_drift 7 = .ok (.ifCond .eq 5, 3) := by decide +kernel
theorem dX10_drift_10 : decode cX10_drift 10 = .ok (.iload_n 2, 1) := by decide +kernel
theorem dX10_drift_11 : decode cX10_drift 11 = .ok (.ireturn, 1) := by decide +kernel
theorem dX10_drift_12 : decode cX10_drift 12 = .ok (.aload_n 0, 1) := by decide +kernel
theorem dX10_drift_13 : decode cX10_drift 13 = .ok (.invokevirtual 198, 3) := by decide +kernel
theorem dX10_drift_16 : decode cX10_drift 16 = .ok (.iconst 0, 1) := by decide +kernel
theorem dX10_drift_17 : decode cX10_drift 17 = .ok (.istore_n 3, 1) := by decide +kernel
theorem dX10_drift_18 : decode cX10_drift 18 = .ok (.iload_n 3, 1) := by decide +kernel
theorem dX10_drift_19 : decode cX10_drift 19 = .ok (.iload_n 1, 1) := by decide +kernel
theorem dX10_drift_20 : decode cX10_drift 20 = .ok (.if_icmp .ge 24, 3) := by decide +kernel
theorem dX10_drift_23 : decode cX10_drift 23 = .ok (.aload_n 0, 1) := by decide +kernel
theorem dX10_drift_24 : decode cX10_drift 24 = .ok (.getfield 85, 3) := by decide +kernel
theorem dX10_drift_27 : decode cX10_drift 27 = .ok (.ifCond .le 7, 3) := by decide +kernel
theorem dX10_drift_30 : decode cX10_drift 30 = .ok (.aload_n 0, 1) := by decide +kernel
theorem dX10_drift_31 : decode cX10_drift 31 = .ok (.invokevirtual 220, 3) := by decide +kernel
theorem dX10_drift_34 : decode cX10_drift 34 = .ok (.aload_n 0, 1) := by decide +kernel
theorem dX10_drift_35 : decode cX10_drift 35 = .ok (.invokevirtual 201, 3) := by decide +kernel
theorem dX10_drift_38 : decode cX10_drift 38 = .ok (.iinc 3 1, 3) := by decide +kernel
theorem dX10_drift_41 : decode cX10_drift 41 = .ok (.goto (-23), 3) := by decide +kernel
theorem dX10_drift_44 : decode cX10_drift 44 = .ok (.aload_n 0, 1) := by decide +kernel
theorem dX10_drift_45 : decode cX10_drift 45 = .ok (.getfield 16, 3) := by decide +kernel
theorem dX10_drift_48 : decode cX10_drift 48 = .ok (.bipush 40, 2) := by decide +kernel
theorem dX10_drift_50 : decode cX10_drift 50 = .ok (.iaload, 1) := by decide +kernel
theorem dX10_drift_51 : decode cX10_drift 51 = .ok (.ireturn, 1) := by decide +kernel
theorem dX10_undo_0 : decode cX10_undo 0 = .ok (.aload_n 0, 1) := by decide +kernel
theorem dX10_undo_1 : decode cX10_undo 1 = .ok (.getfield 156, 3) := by decide +kernel
theorem dX10_undo_4 : decode cX10_undo 4 = .ok (.ifCond .ne 6, 3) := by decide +kernel
theorem dX10_undo_7 : decode cX10_undo 7 = .ok (.ldc 194, 2) := by decide +kernel
theorem dX10_undo_9 : decode cX10_undo 9 = .ok (.ireturn, 1) := by decide +kernel
theorem dX10_undo_10 : decode cX10_undo 10 = .ok (.aload_n 0, 1) := by decide +kernel
theorem dX10_undo_11 : decode cX10_undo 11 = .ok (.dup, 1) := by decide +kernel
theorem dX10_undo_12 : decode cX10_undo 12 = .ok (.getfield 156, 3) := by decide +kernel
theorem dX10_undo_15 : decode cX10_undo 15 = .ok (.iconst 1, 1) := by decide +kernel
theorem dX10_undo_16 : decode cX10_undo 16 = .ok (.isub, 1) := by decide +kernel
theorem dX10_undo_17 : decode cX10_undo 17 = .ok (.putfield 156, 3) := by decide +kernel
theorem dX10_undo_20 : decode cX10_undo 20 = .ok (.iconst 0, 1) := by decide +kernel
theorem dX10_undo_21 : decode cX10_undo 21 = .ok (.istore_n 1, 1) := by decide +kernel
theorem dX10_undo_22 : decode cX10_undo 22 = .ok (.iload_n 1, 1) := by decide +kernel
theorem dX10_undo_23 : decode cX10_undo 23 = .ok (.bipush 41, 2) := by decide +kernel
theorem dX10_undo_25 : decode cX10_undo 25 = .ok (.if_icmp .ge 29, 3) := by decide +kernel
theorem dX10_undo_28 : decode cX10_undo 28 = .ok (.aload_n 0, 1) := by decide +kernel
theorem dX10_undo_29 : decode cX10_undo 29 = .ok (.getfield 16, 3) := by decide +kernel
theorem dX10_undo_32 : decode cX10_undo 32 = .ok (.iload_n 1, 1) := by decide +kernel
theorem dX10_undo_33 : decode cX10_undo 33 = .ok (.aload_n 0, 1) := by decide +kernel
theorem dX10_undo_34 : decode cX10_undo 34 = .ok (.getfield 44, 3) := by decide +kernel
theorem dX10_undo_37 : decode cX10_undo 37 = .ok (.bipush 41, 2) := by decide +kernel
theorem dX10_undo_39 : decode cX10_undo 39 = .ok (.aload_n 0, 1) := by decide +kernel
theorem dX10_undo_40 : decode cX10_undo 40 = .ok (.getfield 156, 3) := by decide +kernel
theorem dX10_undo_43 : decode cX10_undo 43 = .ok (.imul, 1) := by decide +kernel
theorem dX10_undo_44 : decode cX10_undo 44 = .ok (.iload_n 1, 1) := by decide +kernel
theorem dX10_undo_45 : decode cX10_undo 45 = .ok (.iadd, 1) := by decide +kernel
theorem dX10_undo_46 : decode cX10_undo 46 = .ok (.iaload, 1) := by decide +kernel
theorem dX10_undo_47 : decode cX10_undo 47 = .ok (.iastore, 1) := by decide +kernel
theorem dX10_undo_48 : decode cX10_undo 48 = .ok (.iinc 1 1, 3) := by decide +kernel
theorem dX10_undo_51 : decode cX10_undo 51 = .ok (.goto (-29), 3) := by decide +kernel
theorem dX10_undo_54 : decode cX10_undo 54 = .ok (.aload_n 0, 1) := by decide +kernel
theorem dX10_undo_55 : decode cX10_undo 55 = .ok (.getfield 156, 3) := by decide +kernel
theorem dX10_undo_58 : decode cX10_undo 58 = .ok (.ireturn, 1) := by decide +kernel
theorem dX10_save_0 : decode cX10_save 0 = .ok (.iconst 0, 1) := by decide +kernel
theorem dX10_save_1 : decode cX10_save 1 = .ok (.istore_n 1, 1) := by decide +kernel
theorem dX10_save_2 : decode cX10_save 2 = .ok (.iload_n 1, 1) := by decide +kernel
theorem dX10_save_3 : decode cX10_save 3 = .ok (.bipush 41, 2) := by decide +kernel
theorem dX10_save_5 : decode cX10_save 5 = .ok (.if_icmp .ge 21, 3) := by decide +kernel
theorem dX10_save_8 : decode cX10_save 8 = .ok (.aload_n 0, 1) := by decide +kernel
theorem dX10_save_9 : decode cX10_save 9 = .ok (.getfield 47, 3) := by decide +kernel
theorem dX10_save_12 : decode cX10_save 12 = .ok (.iload_n 1, 1) := by decide +kernel
theorem dX10_save_13 : decode cX10_save 13 = .ok (.aload_n 0, 1) := by decide +kernel
theorem dX10_save_14 : decode cX10_save 14 = .ok (.getfield 16, 3) := by decide +kernel
theorem dX10_save_17 : decode cX10_save 17 = .ok (.iload_n 1, 1) := by decide +kernel
theorem dX10_save_18 : decode cX10_save 18 = .ok (.iaload, 1) := by decide +kernel
theorem dX10_save_19 : decode cX10_save 19 = .ok (.iastore, 1) := by decide +kernel
theorem dX10_save_20 : decode cX10_save 20 = .ok (.iinc 1 1, 3) := by decide +kernel
theorem dX10_save_23 : decode cX10_save 23 = .ok (.goto (-21), 3) := by decide +kernel
theorem dX10_save_26 : decode cX10_save 26 = .ok (.return_, 1) := by decide +kernel
theorem dX10_putBack_0 : decode cX10_putBack 0 = .ok (.iconst 0, 1) := by decide +kernel
theorem dX10_putBack_1 : decode cX10_putBack 1 = .ok (.istore_n 1, 1) := by decide +kernel
theorem dX10_putBack_2 : decode cX10_putBack 2 = .ok (.iload_n 1, 1) := by decide +kernel
theorem dX10_putBack_3 : decode cX10_putBack 3 = .ok (.bipush 41, 2) := by decide +kernel
theorem dX10_putBack_5 : decode cX10_putBack 5 = .ok (.if_icmp .ge 21, 3) := by decide +kernel
theorem dX10_putBack_8 : decode cX10_putBack 8 = .ok (.aload_n 0, 1) := by decide +kernel
theorem dX10_putBack_9 : decode cX10_putBack 9 = .ok (.getfield 16, 3) := by decide +kernel
theorem dX10_putBack_12 : decode cX10_putBack 12 = .ok (.iload_n 1, 1) := by decide +kernel
theorem dX10_putBack_13 : decode cX10_putBack 13 = .ok (.aload_n 0, 1) := by decide +kernel
theorem dX10_putBack_14 : decode cX10_putBack 14 = .ok (.getfield 47, 3) := by decide +kernel
theorem dX10_putBack_17 : decode cX10_putBack 17 = .ok (.iload_n 1, 1) := by decide +kernel
theorem dX10_putBack_18 : decode cX10_putBack 18 = .ok (.iaload, 1) := by decide +kernel
theorem dX10_putBack_19 : decode cX10_putBack 19 = .ok (.iastore, 1) := by decide +kernel
theorem dX10_putBack_20 : decode cX10_putBack 20 = .ok (.iinc 1 1, 3) := by decide +kernel
theorem dX10_putBack_23 : decode cX10_putBack 23 = .ok (.goto (-21), 3) := by decide +kernel
theorem dX10_putBack_26 : decode cX10_putBack 26 = .ok (.return_, 1) := by decide +kernel
theorem dX10_stepTo_0 : decode cX10_stepTo 0 = .ok (.iconst 0, 1) := by decide +kernel
theorem dX10_stepTo_1 : decode cX10_stepTo 1 = .ok (.istore_n 2, 1) := by decide +kernel
theorem dX10_stepTo_2 : decode cX10_stepTo 2 = .ok (.iload_n 2, 1) := by decide +kernel
theorem dX10_stepTo_3 : decode cX10_stepTo 3 = .ok (.iload_n 1, 1) := by decide +kernel
theorem dX10_stepTo_4 : decode cX10_stepTo 4 = .ok (.if_icmp .ge 13, 3) := by decide +kernel
theorem dX10_stepTo_7 : decode cX10_stepTo 7 = .ok (.aload_n 0, 1) := by decide +kernel
theorem dX10_stepTo_8 : decode cX10_stepTo 8 = .ok (.invokevirtual 201, 3) := by decide +kernel
theorem dX10_stepTo_11 : decode cX10_stepTo 11 = .ok (.iinc 2 1, 3) := by decide +kernel
theorem dX10_stepTo_14 : decode cX10_stepTo 14 = .ok (.goto (-12), 3) := by decide +kernel
theorem dX10_stepTo_17 : decode cX10_stepTo 17 = .ok (.return_, 1) := by decide +kernel
theorem dX10_where_0 : decode cX10_where 0 = .ok (.aload_n 0, 1) := by decide +kernel
theorem dX10_where_1 : decode cX10_where 1 = .ok (.iload_n 1, 1) := by decide +kernel
theorem dX10_where_2 : decode cX10_where 2 = .ok (.invokevirtual 88, 3) := by decide +kernel
theorem dX10_where_5 : decode cX10_where 5 = .ok (.ifCond .ne 6, 3) := by decide +kernel
theorem dX10_where_8 : decode cX10_where 8 = .ok (.ldc 188, 2) := by decide +kernel
theorem dX10_where_10 : decode cX10_where 10 = .ok (.ireturn, 1) := by decide +kernel
theorem dX10_where_11 : decode cX10_where 11 = .ok (.iload_n 2, 1) := by decide +kernel
theorem dX10_where_12 : decode cX10_where 12 = .ok (.i2l, 1) := by decide +kernel
theorem dX10_where_13 : decode cX10_where 13 = .ok (.lconst 0, 1) := by decide +kernel
theorem dX10_where_14 : decode cX10_where 14 = .ok (.ldc2_w 223, 3) := by decide +kernel
theorem dX10_where_17 : decode cX10_where 17 = .ok (.invokestatic 81, 3) := by decide +kernel
theorem dX10_where_20 : decode cX10_where 20 = .ok (.ifCond .ne 6, 3) := by decide +kernel
theorem dX10_where_23 : decode cX10_where 23 = .ok (.ldc 94, 2) := by decide +kernel
theorem dX10_where_25 : decode cX10_where 25 = .ok (.ireturn, 1) := by decide +kernel
theorem dX10_where_26 : decode cX10_where 26 = .ok (.aload_n 0, 1) := by decide +kernel
theorem dX10_where_27 : decode cX10_where 27 = .ok (.invokevirtual 225, 3) := by decide +kernel
theorem dX10_where_30 : decode cX10_where 30 = .ok (.aload_n 0, 1) := by decide +kernel
theorem dX10_where_31 : decode cX10_where 31 = .ok (.iload_n 2, 1) := by decide +kernel
theorem dX10_where_32 : decode cX10_where 32 = .ok (.invokevirtual 228, 3) := by decide +kernel
theorem dX10_where_35 : decode cX10_where 35 = .ok (.aload_n 0, 1) := by decide +kernel
theorem dX10_where_36 : decode cX10_where 36 = .ok (.getfield 16, 3) := by decide +kernel
theorem dX10_where_39 : decode cX10_where 39 = .ok (.iload_n 1, 1) := by decide +kernel
theorem dX10_where_40 : decode cX10_where 40 = .ok (.iaload, 1) := by decide +kernel
theorem dX10_where_41 : decode cX10_where 41 = .ok (.istore_n 3, 1) := by decide +kernel
theorem dX10_where_42 : decode cX10_where 42 = .ok (.aload_n 0, 1) := by decide +kernel
theorem dX10_where_43 : decode cX10_where 43 = .ok (.invokevirtual 232, 3) := by decide +kernel
theorem dX10_where_46 : decode cX10_where 46 = .ok (.iload_n 3, 1) := by decide +kernel
theorem dX10_where_47 : decode cX10_where 47 = .ok (.ireturn, 1) := by decide +kernel
theorem dX10_sees_0 : decode cX10_sees 0 = .ok (.aload_n 0, 1) := by decide +kernel
theorem dX10_sees_1 : decode cX10_sees 1 = .ok (.iload_n 1, 1) := by decide +kernel
theorem dX10_sees_2 : decode cX10_sees 2 = .ok (.iload_n 2, 1) := by decide +kernel
theorem dX10_sees_3 : decode cX10_sees 3 = .ok (.invokevirtual 204, 3) := by decide +kernel
theorem dX10_sees_6 : decode cX10_sees 6 = .ok (.ifCond .ne 6, 3) := by decide +kernel
theorem dX10_sees_9 : decode cX10_sees 9 = .ok (.ldc 188, 2) := by decide +kernel
theorem dX10_sees_11 : decode cX10_sees 11 = .ok (.ireturn, 1) := by decide +kernel
theorem dX10_sees_12 : decode cX10_sees 12 = .ok (.aload_n 0, 1) := by decide +kernel
theorem dX10_sees_13 : decode cX10_sees 13 = .ok (.invokevirtual 225, 3) := by decide +kernel
theorem dX10_sees_16 : decode cX10_sees 16 = .ok (.aload_n 0, 1) := by decide +kernel
theorem dX10_sees_17 : decode cX10_sees 17 = .ok (.getfield 16, 3) := by decide +kernel
theorem dX10_sees_20 : decode cX10_sees 20 = .ok (.iload_n 1, 1) := by decide +kernel
theorem dX10_sees_21 : decode cX10_sees 21 = .ok (.iaload, 1) := by decide +kernel
theorem dX10_sees_22 : decode cX10_sees 22 = .ok (.aload_n 0, 1) := by decide +kernel
theorem dX10_sees_23 : decode cX10_sees 23 = .ok (.getfield 16, 3) := by decide +kernel
theorem dX10_sees_26 : decode cX10_sees 26 = .ok (.iload_n 2, 1) := by decide +kernel
theorem dX10_sees_27 : decode cX10_sees 27 = .ok (.iaload, 1) := by decide +kernel
theorem dX10_sees_28 : decode cX10_sees 28 = .ok (.if_icmp .ne 7, 3) := by decide +kernel
theorem dX10_sees_31 : decode cX10_sees 31 = .ok (.iconst 0, 1) := by decide +kernel
theorem dX10_sees_32 : decode cX10_sees 32 = .ok (.goto 4, 3) := by decide +kernel
theorem dX10_sees_35 : decode cX10_sees 35 = .ok (.iconst (-1), 1) := by decide +kernel
theorem dX10_sees_36 : decode cX10_sees 36 = .ok (.istore_n 3, 1) := by decide +kernel
theorem dX10_sees_37 : decode cX10_sees 37 = .ok (.iconst 1, 1) := by decide +kernel
theorem dX10_sees_38 : decode cX10_sees 38 = .ok (.istore 4, 2) := by decide +kernel
theorem dX10_sees_40 : decode cX10_sees 40 = .ok (.iload 4, 2) := by decide +kernel
theorem dX10_sees_42 : decode cX10_sees 42 = .ok (.sipush 200, 3) := by decide +kernel
theorem dX10_sees_45 : decode cX10_sees 45 = .ok (.if_icmp .gt 39, 3) := by decide +kernel
theorem dX10_sees_48 : decode cX10_sees 48 = .ok (.iload_n 3, 1) := by decide +kernel
theorem dX10_sees_49 : decode cX10_sees 49 = .ok (.ifCond .ge 35, 3) := by decide +kernel
theorem dX10_sees_52 : decode cX10_sees 52 = .ok (.aload_n 0, 1) := by decide +kernel
theorem dX10_sees_53 : decode cX10_sees 53 = .ok (.invokevirtual 201, 3) := by decide +kernel
theorem dX10_sees_56 : decode cX10_sees 56 = .ok (.aload_n 0, 1) := by decide +kernel
theorem dX10_sees_57 : decode cX10_sees 57 = .ok (.getfield 16, 3) := by decide +kernel
theorem dX10_sees_60 : decode cX10_sees 60 = .ok (.iload_n 1, 1) := by decide +kernel
theorem dX10_sees_61 : decode cX10_sees 61 = .ok (.iaload, 1) := by decide +kernel
theorem dX10_sees_62 : decode cX10_sees 62 = .ok (.aload_n 0, 1) := by decide +kernel
theorem dX10_sees_63 : decode cX10_sees 63 = .ok (.getfield 16, 3) := by decide +kernel
theorem dX10_sees_66 : decode cX10_sees 66 = .ok (.iload_n 2, 1) := by decide +kernel
theorem dX10_sees_67 : decode cX10_sees 67 = .ok (.iaload, 1) := by decide +kernel
theorem dX10_sees_68 : decode cX10_sees 68 = .ok (.if_icmp .ne 8, 3) := by decide +kernel
theorem dX10_sees_71 : decode cX10_sees 71 = .ok (.iload 4, 2) := by decide +kernel
theorem dX10_sees_73 : decode cX10_sees 73 = .ok (.goto 4, 3) := by decide +kernel
theorem dX10_sees_76 : decode cX10_sees 76 = .ok (.iconst (-1), 1) := by decide +kernel
theorem dX10_sees_77 : decode cX10_sees 77 = .ok (.istore_n 3, 1) := by decide +kernel
theorem dX10_sees_78 : decode cX10_sees 78 = .ok (.iinc 4 1, 3) := by decide +kernel
theorem dX10_sees_81 : decode cX10_sees 81 = .ok (.goto (-41), 3) := by decide +kernel
theorem dX10_sees_84 : decode cX10_sees 84 = .ok (.aload_n 0, 1) := by decide +kernel
theorem dX10_sees_85 : decode cX10_sees 85 = .ok (.invokevirtual 232, 3) := by decide +kernel
theorem dX10_sees_88 : decode cX10_sees 88 = .ok (.iload_n 3, 1) := by decide +kernel
theorem dX10_sees_89 : decode cX10_sees 89 = .ok (.ireturn, 1) := by decide +kernel
theorem dX10_rings_0 : decode cX10_rings 0 = .ok (.aload_n 0, 1) := by decide +kernel
theorem dX10_rings_1 : decode cX10_rings 1 = .ok (.iload_n 1, 1) := by decide +kernel
theorem dX10_rings_2 : decode cX10_rings 2 = .ok (.invokevirtual 182, 3) := by decide +kernel
theorem dX10_rings_5 : decode cX10_rings 5 = .ok (.ireturn, 1) := by decide +kernel
theorem dX10_end_0 : decode cX10_end 0 = .ok (.aload_n 0, 1) := by decide +kernel
theorem dX10_end_1 : decode cX10_end 1 = .ok (.iload_n 1, 1) := by decide +kernel
theorem dX10_end_2 : decode cX10_end 2 = .ok (.invokevirtual 88, 3) := by decide +kernel
theorem dX10_end_5 : decode cX10_end 5 = .ok (.ifCond .ne 6, 3) := by decide +kernel
theorem dX10_end_8 : decode cX10_end 8 = .ok (.ldc 188, 2) := by decide +kernel
theorem dX10_end_10 : decode cX10_end 10 = .ok (.ireturn, 1) := by decide +kernel
theorem dX10_end_11 : decode cX10_end 11 = .ok (.iload_n 2, 1) := by decide +kernel
theorem dX10_end_12 : decode cX10_end 12 = .ok (.i2l, 1) := by decide +kernel
theorem dX10_end_13 : decode cX10_end 13 = .ok (.lconst 0, 1) := by decide +kernel
theorem dX10_end_14 : decode cX10_end 14 = .ok (.lconst 1, 1) := by decide +kernel
theorem dX10_end_15 : decode cX10_end 15 = .ok (.invokestatic 81, 3) := by decide +kernel
theorem dX10_end_18 : decode cX10_end 18 = .ok (.ifCond .ne 6, 3) := by decide +kernel
theorem dX10_end_21 : decode cX10_end 21 = .ok (.ldc 94, 2) := by decide +kernel
theorem dX10_end_23 : decode cX10_end 23 = .ok (.ireturn, 1) := by decide +kernel
theorem dX10_end_24 : decode cX10_end 24 = .ok (.iload_n 1, 1) := by decide +kernel
theorem dX10_end_25 : decode cX10_end 25 = .ok (.istore_n 3, 1) := by decide +kernel
theorem dX10_end_26 : decode cX10_end 26 = .ok (.iconst 0, 1) := by decide +kernel
theorem dX10_end_27 : decode cX10_end 27 = .ok (.istore 4, 2) := by decide +kernel
theorem dX10_end_29 : decode cX10_end 29 = .ok (.aload_n 0, 1) := by decide +kernel
theorem dX10_end_30 : decode cX10_end 30 = .ok (.iload_n 3, 1) := by decide +kernel
theorem dX10_end_31 : decode cX10_end 31 = .ok (.invokevirtual 166, 3) := by decide +kernel
theorem dX10_end_34 : decode cX10_end 34 = .ok (.ifCond .ne 31, 3) := by decide +kernel
theorem dX10_end_37 : decode cX10_end 37 = .ok (.aload_n 0, 1) := by decide +kernel
theorem dX10_end_38 : decode cX10_end 38 = .ok (.getfield 16, 3) := by decide +kernel
theorem dX10_end_41 : decode cX10_end 41 = .ok (.bipush 8, 2) := by decide +kernel
theorem dX10_end_43 : decode cX10_end 43 = .ok (.iload_n 3, 1) := by decide +kernel
theorem dX10_end_44 : decode cX10_end 44 = .ok (.iadd, 1) := by decide +kernel
theorem dX10_end_45 : decode cX10_end 45 = .ok (.iaload, 1) := by decide +kernel
theorem dX10_end_46 : decode cX10_end 46 = .ok (.ifCond .lt 19, 3) := by decide +kernel
theorem dX10_end_49 : decode cX10_end 49 = .ok (.aload_n 0, 1) := by decide +kernel
theorem dX10_end_50 : decode cX10_end 50 = .ok (.getfield 16, 3) := by decide +kernel
theorem dX10_end_53 : decode cX10_end 53 = .ok (.bipush 8, 2) := by decide +kernel
theorem dX10_end_55 : decode cX10_end 55 = .ok (.iload_n 3, 1) := by decide +kernel
theorem dX10_end_56 : decode cX10_end 56 = .ok (.iadd, 1) := by decide +kernel
theorem dX10_end_57 : decode cX10_end 57 = .ok (.iaload, 1) := by decide +kernel
theorem dX10_end_58 : decode cX10_end 58 = .ok (.istore_n 3, 1) := by decide +kernel
theorem dX10_end_59 : decode cX10_end 59 = .ok (.iinc 4 1, 3) := by decide +kernel
theorem dX10_end_62 : decode cX10_end 62 = .ok (.goto (-33), 3) := by decide +kernel
theorem dX10_end_65 : decode cX10_end 65 = .ok (.iload_n 2, 1) := by decide +kernel
theorem dX10_end_66 : decode cX10_end 66 = .ok (.iconst 1, 1) := by decide +kernel
theorem dX10_end_67 : decode cX10_end 67 = .ok (.if_icmp .ne 8, 3) := by decide +kernel
theorem dX10_end_70 : decode cX10_end 70 = .ok (.iload 4, 2) := by decide +kernel
theorem dX10_end_72 : decode cX10_end 72 = .ok (.goto 23, 3) := by decide +kernel
theorem dX10_end_75 : decode cX10_end 75 = .ok (.aload_n 0, 1) := by decide +kernel
theorem dX10_end_76 : decode cX10_end 76 = .ok (.iload_n 3, 1) := by decide +kernel
theorem dX10_end_77 : decode cX10_end 77 = .ok (.invokevirtual 166, 3) := by decide +kernel
theorem dX10_end_80 : decode cX10_end 80 = .ok (.ifCond .ne 7, 3) := by decide +kernel
theorem dX10_end_83 : decode cX10_end 83 = .ok (.iload_n 3, 1) := by decide +kernel
theorem dX10_end_84 : decode cX10_end 84 = .ok (.goto 11, 3) := by decide +kernel
theorem dX10_end_87 : decode cX10_end 87 = .ok (.aload_n 0, 1) := by decide +kernel
theorem dX10_end_88 : decode cX10_end 88 = .ok (.iload_n 3, 1) := by decide +kernel
theorem dX10_end_89 : decode cX10_end 89 = .ok (.invokevirtual 166, 3) := by decide +kernel
theorem dX10_end_92 : decode cX10_end 92 = .ok (.invokestatic 170, 3) := by decide +kernel
theorem dX10_end_95 : decode cX10_end 95 = .ok (.ireturn, 1) := by decide +kernel
theorem dX10_behind_0 : decode cX10_behind 0 = .ok (.aload_n 0, 1) := by decide +kernel
theorem dX10_behind_1 : decode cX10_behind 1 = .ok (.iload_n 1, 1) := by decide +kernel
theorem dX10_behind_2 : decode cX10_behind 2 = .ok (.invokevirtual 88, 3) := by decide +kernel
theorem dX10_behind_5 : decode cX10_behind 5 = .ok (.ifCond .eq 11, 3) := by decide +kernel
theorem dX10_behind_8 : decode cX10_behind 8 = .ok (.aload_n 0, 1) := by decide +kernel
theorem dX10_behind_9 : decode cX10_behind 9 = .ok (.iload_n 1, 1) := by decide +kernel
theorem dX10_behind_10 : decode cX10_behind 10 = .ok (.invokevirtual 173, 3) := by decide +kernel
theorem dX10_behind_13 : decode cX10_behind 13 = .ok (.goto 5, 3) := by decide +kernel
theorem dX10_behind_16 : decode cX10_behind 16 = .ok (.ldc 188, 2) := by decide +kernel
theorem dX10_behind_18 : decode cX10_behind 18 = .ok (.ireturn, 1) := by decide +kernel
theorem dX10_stop_0 : decode cX10_stop 0 = .ok (.iconst 0, 1) := by decide +kernel
