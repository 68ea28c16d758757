theorem dX4_init_0 : decode cX4_init 0 = .ok (.aload_n 0, 1) := by decide +kernel
theorem dX4_init_1 : decode cX4_init 1 = .ok (.invokespecial 1, 3) := by decide +kernel
theorem dX4_init_4 : decode cX4_init 4 = .ok (.aload_n 0, 1) := by decide +kernel
theorem dX4_init_5 : decode cX4_init 5 = .ok (.sipush 2175, 3) := by decide +kernel
theorem dX4_init_8 : decode cX4_init 8 = .ok (.newarray .int, 2) := by decide +kernel
theorem dX4_init_10 : decode cX4_init 10 = .ok (.putfield 7, 3) := by decide +kernel
theorem dX4_init_13 : decode cX4_init 13 = .ok (.aload_n 0, 1) := by decide +kernel
theorem dX4_init_14 : decode cX4_init 14 = .ok (.sipush 2175, 3) := by decide +kernel
theorem dX4_init_17 : decode cX4_init 17 = .ok (.newarray .int, 2) := by decide +kernel
theorem dX4_init_19 : decode cX4_init 19 = .ok (.putfield 13, 3) := by decide +kernel
theorem dX4_init_22 : decode cX4_init 22 = .ok (.aload_n 0, 1) := by decide +kernel
theorem dX4_init_23 : decode cX4_init 23 = .ok (.sipush 13050, 3) := by decide +kernel
theorem dX4_init_26 : decode cX4_init 26 = .ok (.newarray .int, 2) := by decide +kernel
theorem dX4_init_28 : decode cX4_init 28 = .ok (.putfield 16, 3) := by decide +kernel
theorem dX4_init_31 : decode cX4_init 31 = .ok (.aload_n 0, 1) := by decide +kernel
theorem dX4_init_32 : decode cX4_init 32 = .ok (.sipush 4350, 3) := by decide +kernel
theorem dX4_init_35 : decode cX4_init 35 = .ok (.newarray .int, 2) := by decide +kernel
theorem dX4_init_37 : decode cX4_init 37 = .ok (.putfield 19, 3) := by decide +kernel
theorem dX4_init_40 : decode cX4_init 40 = .ok (.aload_n 0, 1) := by decide +kernel
theorem dX4_init_41 : decode cX4_init 41 = .ok (.iconst 2, 1) := by decide +kernel
theorem dX4_init_42 : decode cX4_init 42 = .ok (.newarray .boolean, 2) := by decide +kernel
theorem dX4_init_44 : decode cX4_init 44 = .ok (.putfield 22, 3) := by decide +kernel
theorem dX4_init_47 : decode cX4_init 47 = .ok (.aload_n 0, 1) := by decide +kernel
theorem dX4_init_48 : decode cX4_init 48 = .ok (.bipush 80, 2) := by decide +kernel
theorem dX4_init_50 : decode cX4_init 50 = .ok (.newarray .int, 2) := by decide +kernel
theorem dX4_init_52 : decode cX4_init 52 = .ok (.putfield 26, 3) := by decide +kernel
theorem dX4_init_55 : decode cX4_init 55 = .ok (.aload_n 0, 1) := by decide +kernel
theorem dX4_init_56 : decode cX4_init 56 = .ok (.bipush 121, 2) := by decide +kernel
theorem dX4_init_58 : decode cX4_init 58 = .ok (.newarray .int, 2) := by decide +kernel
theorem dX4_init_60 : decode cX4_init 60 = .ok (.putfield 29, 3) := by decide +kernel
theorem dX4_init_63 : decode cX4_init 63 = .ok (.aload_n 0, 1) := by decide +kernel
theorem dX4_init_64 : decode cX4_init 64 = .ok (.getfield 7, 3) := by decide +kernel
theorem dX4_init_67 : decode cX4_init 67 = .ok (.iconst 1, 1) := by decide +kernel
theorem dX4_init_68 : decode cX4_init 68 = .ok (.iconst 2, 1) := by decide +kernel
theorem dX4_init_69 : decode cX4_init 69 = .ok (.iastore, 1) := by decide +kernel
theorem dX4_init_70 : decode cX4_init 70 = .ok (.aload_n 0, 1) := by decide +kernel
theorem dX4_init_71 : decode cX4_init 71 = .ok (.getfield 7, 3) := by decide +kernel
theorem dX4_init_74 : decode cX4_init 74 = .ok (.iconst 2, 1) := by decide +kernel
theorem dX4_init_75 : decode cX4_init 75 = .ok (.iconst 2, 1) := by decide +kernel
theorem dX4_init_76 : decode cX4_init 76 = .ok (.iastore, 1) := by decide +kernel
theorem dX4_init_77 : decode cX4_init 77 = .ok (.iconst 0, 1) := by decide +kernel
theorem dX4_init_78 : decode cX4_init 78 = .ok (.istore_n 1, 1) := by decide +kernel
theorem dX4_init_79 : decode cX4_init 79 = .ok (.iload_n 1, 1) := by decide +kernel
theorem dX4_init_80 : decode cX4_init 80 = .ok (.bipush 120, 2) := by decide +kernel
theorem dX4_init_82 : decode cX4_init 82 = .ok (.if_icmp .ge 68, 3) := by decide +kernel
theorem dX4_init_85 : decode cX4_init 85 = .ok (.iload_n 1, 1) := by decide +kernel
theorem dX4_init_86 : decode cX4_init 86 = .ok (.bipush 12, 2) := by decide +kernel
theorem dX4_init_88 : decode cX4_init 88 = .ok (.irem, 1) := by decide +kernel
theorem dX4_init_89 : decode cX4_init 89 = .ok (.istore_n 2, 1) := by decide +kernel
theorem dX4_init_90 : decode cX4_init 90 = .ok (.aload_n 0, 1) := by decide +kernel
theorem dX4_init_91 : decode cX4_init 91 = .ok (.getfield 29, 3) := by decide +kernel
theorem dX4_init_94 : decode cX4_init 94 = .ok (.iload_n 1, 1) := by decide +kernel
theorem dX4_init_95 : decode cX4_init 95 = .ok (.iconst 1, 1) := by decide +kernel
theorem dX4_init_96 : decode cX4_init 96 = .ok (.iadd, 1) := by decide +kernel
theorem dX4_init_97 : decode cX4_init 97 = .ok (.aload_n 0, 1) := by decide +kernel
theorem dX4_init_98 : decode cX4_init 98 = .ok (.getfield 29, 3) := by decide +kernel
theorem dX4_init_101 : decode cX4_init 101 = .ok (.iload_n 1, 1) := by decide +kernel
theorem dX4_init_102 : decode cX4_init 102 = .ok (.iaload, 1) := by decide +kernel
theorem dX4_init_103 : decode cX4_init 103 = .ok (.iload_n 2, 1) := by decide +kernel
theorem dX4_init_104 : decode cX4_init 104 = .ok (.iconst 1, 1) := by decide +kernel
theorem dX4_init_105 : decode cX4_init 105 = .ok (.if_icmp .ne 8, 3) := by decide +kernel
theorem dX4_init_108 : decode cX4_init 108 = .ok (.bipush 28, 2) := by decide +kernel
theorem dX4_init_110 : decode cX4_init 110 = .ok (.goto 32, 3) := by decide +kernel
theorem dX4_init_113 : decode cX4_init 113 = .ok (.iload_n 2, 1) := by decide +kernel
theorem dX4_init_114 : decode cX4_init 114 = .ok (.iconst 3, 1) := by decide +kernel
theorem dX4_init_115 : decode cX4_init 115 = .ok (.if_icmp .eq 20, 3) := by decide +kernel
theorem dX4_init_118 : decode cX4_init 118 = .ok (.iload_n 2, 1) := by decide +kernel
theorem dX4_init_119 : decode cX4_init 119 = .ok (.iconst 5, 1) := by decide +kernel
theorem dX4_init_120 : decode cX4_init 120 = .ok (.if_icmp .eq 15, 3) := by decide +kernel
theorem dX4_init_123 : decode cX4_init 123 = .ok (.iload_n 2, 1) := by decide +kernel
theorem dX4_init_124 : decode cX4_init 124 = .ok (.bipush 8, 2) := by decide +kernel
theorem dX4_init_126 : decode cX4_init 126 = .ok (.if_icmp .eq 9, 3) := by decide +kernel
theorem dX4_init_129 : decode cX4_init 129 = .ok (.iload_n 2, 1) := by decide +kernel
theorem dX4_init_130 : decode cX4_init 130 = .ok (.bipush 10, 2) := by decide +kernel
theorem dX4_init_132 : decode cX4_init 132 = .ok (.if_icmp .ne 8, 3) := by decide +kernel
theorem dX4_init_135 : decode cX4_init 135 = .ok (.bipush 30, 2) := by decide +kernel
theorem dX4_init_137 : decode cX4_init 137 = .ok (.goto 5, 3) := by decide +kernel
theorem dX4_init_140 : decode cX4_init 140 = .ok (.bipush 31, 2) := by decide +kernel
theorem dX4_init_142 : decode cX4_init 142 = .ok (.iadd, 1) := by decide +kernel
theorem dX4_init_143 : decode cX4_init 143 = .ok (.iastore, 1) := by decide +kernel
theorem dX4_init_144 : decode cX4_init 144 = .ok (.iinc 1 1, 3) := by decide +kernel
theorem dX4_init_147 : decode cX4_init 147 = .ok (.goto (-68), 3) := by decide +kernel
theorem dX4_init_150 : decode cX4_init 150 = .ok (.return_, 1) := by decide +kernel
theorem dX4_in_0 : decode cX4_in 0 = .ok (.lload_n 0, 1) := by decide +kernel
theorem dX4_in_1 : decode cX4_in 1 = .ok (.lload_n 2, 1) := by decide +kernel
theorem dX4_in_2 : decode cX4_in 2 = .ok (.lcmp, 1) := by decide +kernel
theorem dX4_in_3 : decode cX4_in 3 = .ok (.ifCond .lt 14, 3) := by decide +kernel
theorem dX4_in_6 : decode cX4_in 6 = .ok (.lload_n 0, 1) := by decide +kernel
theorem dX4_in_7 : decode cX4_in 7 = .ok (.lload 4, 2) := by decide +kernel
theorem dX4_in_9 : decode cX4_in 9 = .ok (.lcmp, 1) := by decide +kernel
theorem dX4_in_10 : decode cX4_in 10 = .ok (.ifCond .gt 7, 3) := by decide +kernel
theorem dX4_in_13 : decode cX4_in 13 = .ok (.iconst 1, 1) := by decide +kernel
theorem dX4_in_14 : decode cX4_in 14 = .ok (.goto 4, 3) := by decide +kernel
theorem dX4_in_17 : decode cX4_in 17 = .ok (.iconst 0, 1) := by decide +kernel
theorem dX4_in_18 : decode cX4_in 18 = .ok (.ireturn, 1) := by decide +kernel
theorem dX4_copyDiary_0 : decode cX4_copyDiary 0 = .ok (.iconst 0, 1) := by decide +kernel
theorem dX4_copyDiary_1 : decode cX4_copyDiary 1 = .ok (.istore 4, 2) := by decide +kernel
theorem dX4_copyDiary_3 : decode cX4_copyDiary 3 = .ok (.iload 4, 2) := by decide +kernel
theorem dX4_copyDiary_5 : decode cX4_copyDiary 5 = .ok (.sipush 2175, 3) := by decide +kernel
theorem dX4_copyDiary_8 : decode cX4_copyDiary 8 = .ok (.if_icmp .ge 21, 3) := by decide +kernel
theorem dX4_copyDiary_11 : decode cX4_copyDiary 11 = .ok (.aload_n 2, 1) := by decide +kernel
theorem dX4_copyDiary_12 : decode cX4_copyDiary 12 = .ok (.iload_n 3, 1) := by decide +kernel
theorem dX4_copyDiary_13 : decode cX4_copyDiary 13 = .ok (.iload 4, 2) := by decide +kernel
theorem dX4_copyDiary_15 : decode cX4_copyDiary 15 = .ok (.iadd, 1) := by decide +kernel
theorem dX4_copyDiary_16 : decode cX4_copyDiary 16 = .ok (.aload_n 0, 1) := by decide +kernel
theorem dX4_copyDiary_17 : decode cX4_copyDiary 17 = .ok (.iload_n 1, 1) := by decide +kernel
theorem dX4_copyDiary_18 : decode cX4_copyDiary 18 = .ok (.iload 4, 2) := by decide +kernel
theorem dX4_copyDiary_20 : decode cX4_copyDiary 20 = .ok (.iadd, 1) := by decide +kernel
theorem dX4_copyDiary_21 : decode cX4_copyDiary 21 = .ok (.iaload, 1) := by decide +kernel
theorem dX4_copyDiary_22 : decode cX4_copyDiary 22 = .ok (.iastore, 1) := by decide +kernel
theorem dX4_copyDiary_23 : decode cX4_copyDiary 23 = .ok (.iinc 4 1, 3) := by decide +kernel
theorem dX4_copyDiary_26 : decode cX4_copyDiary 26 = .ok (.goto (-23), 3) := by decide +kernel
theorem dX4_copyDiary_29 : decode cX4_copyDiary 29 = .ok (.return_, 1) := by decide +kernel
theorem dX4_isDay_0 : decode cX4_isDay 0 = .ok (.iload_n 0, 1) := by decide +kernel
theorem dX4_isDay_1 : decode cX4_isDay 1 = .ok (.i2l, 1) := by decide +kernel
theorem dX4_isDay_2 : decode cX4_isDay 2 = .ok (.lconst 0, 1) := by decide +kernel
theorem dX4_isDay_3 : decode cX4_isDay 3 = .ok (.ldc2_w 32, 3) := by decide +kernel
theorem dX4_isDay_6 : decode cX4_isDay 6 = .ok (.invokestatic 34, 3) := by decide +kernel
theorem dX4_isDay_9 : decode cX4_isDay 9 = .ok (.ireturn, 1) := by decide +kernel
theorem dX4_isSubject_0 : decode cX4_isSubject 0 = .ok (.iload_n 0, 1) := by decide +kernel
theorem dX4_isSubject_1 : decode cX4_isSubject 1 = .ok (.i2l, 1) := by decide +kernel
theorem dX4_isSubject_2 : decode cX4_isSubject 2 = .ok (.lconst 0, 1) := by decide +kernel
theorem dX4_isSubject_3 : decode cX4_isSubject 3 = .ok (.ldc2_w 38, 3) := by decide +kernel
theorem dX4_isSubject_6 : decode cX4_isSubject 6 = .ok (.invokestatic 34, 3) := by decide +kernel
theorem dX4_isSubject_9 : decode cX4_isSubject 9 = .ok (.ireturn, 1) := by decide +kernel
theorem dX4_isMonth_0 : decode cX4_isMonth 0 = .ok (.iload_n 0, 1) := by decide +kernel
theorem dX4_isMonth_1 : decode cX4_isMonth 1 = .ok (.i2l, 1) := by decide +kernel
theorem dX4_isMonth_2 : decode cX4_isMonth 2 = .ok (.lconst 0, 1) := by decide +kernel
theorem dX4_isMonth_3 : decode cX4_isMonth 3 = .ok (.ldc2_w 40, 3) := by decide +kernel
theorem dX4_isMonth_6 : decode cX4_isMonth 6 = .ok (.invokestatic 34, 3) := by decide +kernel
theorem dX4_isMonth_9 : decode cX4_isMonth 9 = .ok (.ireturn, 1) := by decide +kernel
theorem dX4_monthOf_0 : decode cX4_monthOf 0 = .ok (.iload_n 1, 1) := by decide +kernel
theorem dX4_monthOf_1 : decode cX4_monthOf 1 = .ok (.sipush 365, 3) := by decide +kernel
theorem dX4_monthOf_4 : decode cX4_monthOf 4 = .ok (.idiv, 1) := by decide +kernel
theorem dX4_monthOf_5 : decode cX4_monthOf 5 = .ok (.bipush 12, 2) := by decide +kernel
theorem dX4_monthOf_7 : decode cX4_monthOf 7 = .ok (.imul, 1) := by decide +kernel
theorem dX4_monthOf_8 : decode cX4_monthOf 8 = .ok (.istore_n 2, 1) := by decide +kernel
theorem dX4_monthOf_9 : decode cX4_monthOf 9 = .ok (.aload_n 0, 1) := by decide +kernel
theorem dX4_monthOf_10 : decode cX4_monthOf 10 = .ok (.getfield 29, 3) := by decide +kernel
theorem dX4_monthOf_13 : decode cX4_monthOf 13 = .ok (.iload_n 2, 1) := by decide +kernel
theorem dX4_monthOf_14 : decode cX4_monthOf 14 = .ok (.iconst 1, 1) := by decide +kernel
theorem dX4_monthOf_15 : decode cX4_monthOf 15 = .ok (.iadd, 1) := by decide +kernel
theorem dX4_monthOf_16 : decode cX4_monthOf 16 = .ok (.iaload, 1) := by decide +kernel
theorem dX4_monthOf_17 : decode cX4_monthOf 17 = .ok (.iload_n 1, 1) := by decide +kernel
theorem dX4_monthOf_18 : decode cX4_monthOf 18 = .ok (.if_icmp .gt 9, 3) := by decide +kernel
theorem dX4_monthOf_21 : decode cX4_monthOf 21 = .ok (.iinc 2 1, 3) := by decide +kernel
theorem dX4_monthOf_24 : decode cX4_monthOf 24 = .ok (.goto (-15), 3) := by decide +kernel
theorem dX4_monthOf_27 : decode cX4_monthOf 27 = .ok (.iload_n 2, 1) := by decide +kernel
theorem dX4_monthOf_28 : decode cX4_monthOf 28 = .ok (.ireturn, 1) := by decide +kernel
theorem dX4_daysOf_0 : decode cX4_daysOf 0 = .ok (.aload_n 0, 1) := by decide +kernel
theorem dX4_daysOf_1 : decode cX4_daysOf 1 = .ok (.getfield 29, 3) := by decide +kernel
theorem dX4_daysOf_4 : decode cX4_daysOf 4 = .ok (.iload_n 1, 1) := by decide +kernel
theorem dX4_daysOf_5 : decode cX4_daysOf 5 = .ok (.iconst 1, 1) := by decide +kernel
theorem dX4_daysOf_6 : decode cX4_daysOf 6 = .ok (.iadd, 1) := by decide +kernel
theorem dX4_daysOf_7 : decode cX4_daysOf 7 = .ok (.iaload, 1) := by decide +kernel
theorem dX4_daysOf_8 : decode cX4_daysOf 8 = .ok (.aload_n 0, 1) := by decide +kernel
theorem dX4_daysOf_9 : decode cX4_daysOf 9 = .ok (.getfield 29, 3) := by decide +kernel
theorem dX4_daysOf_12 : decode cX4_daysOf 12 = .ok (.iload_n 1, 1) := by decide +kernel
theorem dX4_daysOf_13 : decode cX4_daysOf 13 = .ok (.iaload, 1) := by decide +kernel
theorem dX4_daysOf_14 : decode cX4_daysOf 14 = .ok (.isub, 1) := by decide +kernel
theorem dX4_daysOf_15 : decode cX4_daysOf 15 = .ok (.ireturn, 1) := by decide +kernel
theorem dX4_isOld_0 : decode cX4_isOld 0 = .ok (.iload_n 2, 1) := by decide +kernel
theorem dX4_isOld_1 : decode cX4_isOld 1 = .ok (.aload_n 1, 1) := by decide +kernel
theorem dX4_isOld_2 : decode cX4_isOld 2 = .ok (.iconst 1, 1) := by decide +kernel
theorem dX4_isOld_3 : decode cX4_isOld 3 = .ok (.iaload, 1) := by decide +kernel
theorem dX4_isOld_4 : decode cX4_isOld 4 = .ok (.iadd, 1) := by decide +kernel
theorem dX4_isOld_5 : decode cX4_isOld 5 = .ok (.aload_n 0, 1) := by decide +kernel
theorem dX4_isOld_6 : decode cX4_isOld 6 = .ok (.aload_n 1, 1) := by decide +kernel
theorem dX4_isOld_7 : decode cX4_isOld 7 = .ok (.iconst 0, 1) := by decide +kernel
theorem dX4_isOld_8 : decode cX4_isOld 8 = .ok (.iaload, 1) := by decide +kernel
theorem dX4_isOld_9 : decode cX4_isOld 9 = .ok (.invokevirtual 42, 3) := by decide +kernel
theorem dX4_isOld_12 : decode cX4_isOld 12 = .ok (.if_icmp .gt 7, 3) := by decide +kernel
theorem dX4_isOld_15 : decode cX4_isOld 15 = .ok (.iconst 1, 1) := by decide +kernel
theorem dX4_isOld_16 : decode cX4_isOld 16 = .ok (.goto 4, 3) := by decide +kernel
theorem dX4_isOld_19 : decode cX4_isOld 19 = .ok (.iconst 0, 1) := by decide +kernel
theorem dX4_isOld_20 : decode cX4_isOld 20 = .ok (.ireturn, 1) := by decide +kernel
theorem dX4_at_0 : decode cX4_at 0 = .ok (.sipush 255, 3) := by decide +kernel
theorem dX4_at_3 : decode cX4_at 3 = .ok (.bipush 16, 2) := by decide +kernel
theorem dX4_at_5 : decode cX4_at 5 = .ok (.iload_n 0, 1) := by decide +kernel
theorem dX4_at_6 : decode cX4_at 6 = .ok (.imul, 1) := by decide +kernel
theorem dX4_at_7 : decode cX4_at 7 = .ok (.iadd, 1) := by decide +kernel
theorem dX4_at_8 : decode cX4_at 8 = .ok (.iload_n 1, 1) := by decide +kernel
theorem dX4_at_9 : decode cX4_at 9 = .ok (.iadd, 1) := by decide +kernel
theorem dX4_at_10 : decode cX4_at 10 = .ok (.ireturn, 1) := by decide +kernel
theorem dX4_ones_0 : decode cX4_ones 0 = .ok (.iconst 0, 1) := by decide +kernel
theorem dX4_ones_1 : decode cX4_ones 1 = .ok (.istore_n 1, 1) := by decide +kernel
theorem dX4_ones_2 : decode cX4_ones 2 = .ok (.iconst 0, 1) := by decide +kernel
theorem dX4_ones_3 : decode cX4_ones 3 = .ok (.istore_n 2, 1) := by decide +kernel
theorem dX4_ones_4 : decode cX4_ones 4 = .ok (.iload_n 2, 1) := by decide +kernel
theorem dX4_ones_5 : decode cX4_ones 5 = .ok (.bipush 31, 2) := by decide +kernel
theorem dX4_ones_7 : decode cX4_ones 7 = .ok (.if_icmp .ge 17, 3) := by decide +kernel
theorem dX4_ones_10 : decode cX4_ones 10 = .ok (.iload_n 1, 1) := by decide +kernel
theorem dX4_ones_11 : decode cX4_ones 11 = .ok (.iload_n 0, 1) := by decide +kernel
theorem dX4_ones_12 : decode cX4_ones 12 = .ok (.iload_n 2, 1) := by decide +kernel
theorem dX4_ones_13 : decode cX4_ones 13 = .ok (.ishr, 1) := by decide +kernel
theorem dX4_ones_14 : decode cX4_ones 14 = .ok (.iconst 1, 1) := by decide +kernel
theorem dX4_ones_15 : decode cX4_ones 15 = .ok (.iand, 1) := by decide +kernel
theorem dX4_ones_16 : decode cX4_ones 16 = .ok (.iadd, 1) := by decide +kernel
theorem dX4_ones_17 : decode cX4_ones 17 = .ok (.istore_n 1, 1) := by decide +kernel
theorem dX4_ones_18 : decode cX4_ones 18 = .ok (.iinc 2 1, 3) := by decide +kernel
theorem dX4_ones_21 : decode cX4_ones 21 = .ok (.goto (-17), 3) := by decide +kernel
theorem dX4_ones_24 : decode cX4_ones 24 = .ok (.iload_n 1, 1) := by decide +kernel
theorem dX4_ones_25 : decode cX4_ones 25 = .ok (.ireturn, 1) := by decide +kernel
theorem dX4_meant_0 : decode cX4_meant 0 = .ok (.iconst 0, 1) := by decide +kernel
theorem dX4_meant_1 : decode cX4_meant 1 = .ok (.istore 4, 2) := by decide +kernel
theorem dX4_meant_3 : decode cX4_meant 3 = .ok (.iconst 0, 1) := by decide +kernel
theorem dX4_meant_4 : decode cX4_meant 4 = .ok (.istore 5, 2) := by decide +kernel
theorem dX4_meant_6 : decode cX4_meant 6 = .ok (.iload 5, 2) := by decide +kernel
theorem dX4_meant_8 : decode cX4_meant 8 = .ok (.aload_n 0, 1) := by decide +kernel
theorem dX4_meant_9 : decode cX4_meant 9 = .ok (.iload_n 1, 1) := by decide +kernel
theorem dX4_meant_10 : decode cX4_meant 10 = .ok (.invokevirtual 46, 3) := by decide +kernel
theorem dX4_meant_13 : decode cX4_meant 13 = .ok (.if_icmp .ge 42, 3) := by decide +kernel
theorem dX4_meant_16 : decode cX4_meant 16 = .ok (.iload 4, 2) := by decide +kernel
theorem dX4_meant_18 : decode cX4_meant 18 = .ok (.aload_n 0, 1) := by decide +kernel
theorem dX4_meant_19 : decode cX4_meant 19 = .ok (.getfield 29, 3) := by decide +kernel
theorem dX4_meant_22 : decode cX4_meant 22 = .ok (.iload_n 1, 1) := by decide +kernel
theorem dX4_meant_23 : decode cX4_meant 23 = .ok (.iaload, 1) := by decide +kernel
theorem dX4_meant_24 : decode cX4_meant 24 = .ok (.iload 5, 2) := by decide +kernel
theorem dX4_meant_26 : decode cX4_meant 26 = .ok (.iadd, 1) := by decide +kernel
theorem dX4_meant_27 : decode cX4_meant 27 = .ok (.i2l, 1) := by decide +kernel
theorem dX4_meant_28 : decode cX4_meant 28 = .ok (.iload_n 2, 1) := by decide +kernel
theorem dX4_meant_29 : decode cX4_meant 29 = .ok (.i2l, 1) := by decide +kernel
theorem dX4_meant_30 : decode cX4_meant 30 = .ok (.iload_n 3, 1) := by decide +kernel
theorem dX4_meant_31 : decode cX4_meant 31 = .ok (.i2l, 1) := by decide +kernel
theorem dX4_meant_32 : decode cX4_meant 32 = .ok (.invokestatic 34, 3) := by decide +kernel
theorem dX4_meant_35 : decode cX4_meant 35 = .ok (.ifCond .eq 10, 3) := by decide +kernel
theorem dX4_meant_38 : decode cX4_meant 38 = .ok (.iconst 1, 1) := by decide +kernel
theorem dX4_meant_39 : decode cX4_meant 39 = .ok (.iload 5, 2) := by decide +kernel
theorem dX4_meant_41 : decode cX4_meant 41 = .ok (.ishl, 1) := by decide +kernel
theorem dX4_meant_42 : decode cX4_meant 42 = .ok (.goto 4, 3) := by decide +kernel
theorem dX4_meant_45 : decode cX4_meant 45 = .ok (.iconst 0, 1) := by decide +kernel
theorem dX4_meant_46 : decode cX4_meant 46 = .ok (.ior, 1) := by decide +kernel
theorem dX4_meant_47 : decode cX4_meant 47 = .ok (.istore 4, 2) := by decide +kernel
theorem dX4_meant_49 : decode cX4_meant 49 = .ok (.iinc 5 1, 3) := by decide +kernel
theorem dX4_meant_52 : decode cX4_meant 52 = .ok (.goto (-46), 3) := by decide +kernel
theorem dX4_meant_55 : decode cX4_meant 55 = .ok (.iload 4, 2) := by decide +kernel
theorem dX4_meant_57 : decode cX4_meant 57 = .ok (.ireturn, 1) := by decide +kernel
theorem dX4_whole_0 : decode cX4_whole 0 = .ok (.aload_n 0, 1) := by decide +kernel
theorem dX4_whole_1 : decode cX4_whole 1 = .ok (.iload_n 1, 1) := by decide +kernel
theorem dX4_whole_2 : decode cX4_whole 2 = .ok (.iconst 0, 1) := by decide +kernel
theorem dX4_whole_3 : decode cX4_whole 3 = .ok (.sipush 3649, 3) := by decide +kernel
theorem dX4_whole_6 : decode cX4_whole 6 = .ok (.invokevirtual 49, 3) := by decide +kernel
theorem dX4_whole_9 : decode cX4_whole 9 = .ok (.ireturn, 1) := by decide +kernel
theorem dX4_marksIn_0 : decode cX4_marksIn 0 = .ok (.iconst 0, 1) := by decide +kernel
theorem dX4_marksIn_1 : decode cX4_marksIn 1 = .ok (.istore_n 2, 1) := by decide +kernel
theorem dX4_marksIn_2 : decode cX4_marksIn 2 = .ok (.iconst 0, 1) := by decide +kernel
theorem dX4_marksIn_3 : decode cX4_marksIn 3 = .ok (.istore_n 3, 1) := by decide +kernel
theorem dX4_marksIn_4 : decode cX4_marksIn 4 = .ok (.iload_n 3, 1) := by decide +kernel
theorem dX4_marksIn_5 : decode cX4_marksIn 5 = .ok (.bipush 16, 2) := by decide +kernel
theorem dX4_marksIn_7 : decode cX4_marksIn 7 = .ok (.if_icmp .ge 22, 3) := by decide +kernel
theorem dX4_marksIn_10 : decode cX4_marksIn 10 = .ok (.iload_n 2, 1) := by decide +kernel
theorem dX4_marksIn_11 : decode cX4_marksIn 11 = .ok (.aload_n 0, 1) := by decide +kernel
theorem dX4_marksIn_12 : decode cX4_marksIn 12 = .ok (.iload_n 1, 1) := by decide +kernel
theorem dX4_marksIn_13 : decode cX4_marksIn 13 = .ok (.iload_n 3, 1) := by decide +kernel
theorem dX4_marksIn_14 : decode cX4_marksIn 14 = .ok (.invokestatic 53, 3) := by decide +kernel
theorem dX4_marksIn_17 : decode cX4_marksIn 17 = .ok (.iaload, 1) := by decide +kernel
theorem dX4_marksIn_18 : decode cX4_marksIn 18 = .ok (.invokestatic 57, 3) := by decide +kernel
theorem dX4_marksIn_21 : decode cX4_marksIn 21 = .ok (.iadd, 1) := by decide +kernel
theorem dX4_marksIn_22 : decode cX4_marksIn 22 = .ok (.istore_n 2, 1) := by decide +kernel
theorem dX4_marksIn_23 : decode cX4_marksIn 23 = .ok (.iinc 3 1, 3) := by decide +kernel
theorem dX4_marksIn_26 : decode cX4_marksIn 26 = .ok (.goto (-22), 3) := by decide +kernel
theorem dX4_marksIn_29 : decode cX4_marksIn 29 = .ok (.iload_n 2, 1) := by decide +kernel
theorem dX4_marksIn_30 : decode cX4_marksIn 30 = .ok (.ireturn, 1) := by decide +kernel
theorem dX4_areAlike_0 : decode cX4_areAlike 0 = .ok (.iconst 1, 1) := by decide +kernel
theorem dX4_areAlike_1 : decode cX4_areAlike 1 = .ok (.istore_n 3, 1) := by decide +kernel
theorem dX4_areAlike_2 : decode cX4_areAlike 2 = .ok (.iconst 0, 1) := by decide +kernel
theorem dX4_areAlike_3 : decode cX4_areAlike 3 = .ok (.istore 4, 2) := by decide +kernel
theorem dX4_areAlike_5 : decode cX4_areAlike 5 = .ok (.iload 4, 2) := by decide +kernel
theorem dX4_areAlike_7 : decode cX4_areAlike 7 = .ok (.bipush 16, 2) := by decide +kernel
theorem dX4_areAlike_9 : decode cX4_areAlike 9 = .ok (.if_icmp .ge 38, 3) := by decide +kernel
theorem dX4_areAlike_12 : decode cX4_areAlike 12 = .ok (.iload_n 3, 1) := by decide +kernel
theorem dX4_areAlike_13 : decode cX4_areAlike 13 = .ok (.ifCond .eq 34, 3) := by decide +kernel
theorem dX4_areAlike_16 : decode cX4_areAlike 16 = .ok (.aload_n 0, 1) := by decide +kernel
theorem dX4_areAlike_17 : decode cX4_areAlike 17 = .ok (.iload_n 1, 1) := by decide +kernel
theorem dX4_areAlike_18 : decode cX4_areAlike 18 = .ok (.iload 4, 2) := by decide +kernel
theorem dX4_areAlike_20 : decode cX4_areAlike 20 = .ok (.invokestatic 53, 3) := by decide +kernel
theorem dX4_areAlike_23 : decode cX4_areAlike 23 = .ok (.iaload, 1) := by decide +kernel
theorem dX4_areAlike_24 : decode cX4_areAlike 24 = .ok (.aload_n 0, 1) := by decide +kernel
theorem dX4_areAlike_25 : decode cX4_areAlike 25 = .ok (.iload_n 2, 1) := by decide +kernel
theorem dX4_areAlike_26 : decode cX4_areAlike 26 = .ok (.iload 4, 2) := by decide +kernel
theorem dX4_areAlike_28 : decode cX4_areAlike 28 = .ok (.invokestatic 53, 3) := by decide +kernel
theorem dX4_areAlike_31 : decode cX4_areAlike 31 = .ok (.iaload, 1) := by decide +kernel
theorem dX4_areAlike_32 : decode cX4_areAlike 32 = .ok (.if_icmp .ne 7, 3) := by decide +kernel
theorem dX4_areAlike_35 : decode cX4_areAlike 35 = .ok (.iconst 1, 1) := by decide +kernel
theorem dX4_areAlike_36 : decode cX4_areAlike 36 = .ok (.goto 4, 3) := by decide +kernel
theorem dX4_areAlike_39 : decode cX4_areAlike 39 = .ok (.iconst 0, 1) := by decide +kernel
theorem dX4_areAlike_40 : decode cX4_areAlike 40 = .ok (.istore_n 3, 1) := by decide +kernel
theorem dX4_areAlike_41 : decode cX4_areAlike 41 = .ok (.iinc 4 1, 3) := by decide +kernel
theorem dX4_areAlike_44 : decode cX4_areAlike 44 = .ok (.goto (-39), 3) := by decide +kernel
theorem dX4_areAlike_47 : decode cX4_areAlike 47 = .ok (.iload_n 3, 1) := by decide +kernel
theorem dX4_areAlike_48 : decode cX4_areAlike 48 = .ok (.ireturn, 1) := by decide +kernel
theorem dX4_twin_0 : decode cX4_twin 0 = .ok (.iconst 0, 1) := by decide +kernel
theorem dX4_twin_1 : decode cX4_twin 1 = .ok (.istore_n 3, 1) := by decide +kernel
theorem dX4_twin_2 : decode cX4_twin 2 = .ok (.iload_n 3, 1) := by decide +kernel
theorem dX4_twin_3 : decode cX4_twin 3 = .ok (.iload_n 1, 1) := by decide +kernel
theorem dX4_twin_4 : decode cX4_twin 4 = .ok (.if_icmp .ge 56, 3) := by decide +kernel
theorem dX4_twin_7 : decode cX4_twin 7 = .ok (.iload_n 3, 1) := by decide +kernel
theorem dX4_twin_8 : decode cX4_twin 8 = .ok (.iload_n 2, 1) := by decide +kernel
theorem dX4_twin_9 : decode cX4_twin 9 = .ok (.if_icmp .eq 26, 3) := by decide +kernel
theorem dX4_twin_12 : decode cX4_twin 12 = .ok (.aload_n 0, 1) := by decide +kernel
theorem dX4_twin_13 : decode cX4_twin 13 = .ok (.bipush 15, 2) := by decide +kernel
theorem dX4_twin_15 : decode cX4_twin 15 = .ok (.iload_n 3, 1) := by decide +kernel
theorem dX4_twin_16 : decode cX4_twin 16 = .ok (.iadd, 1) := by decide +kernel
theorem dX4_twin_17 : decode cX4_twin 17 = .ok (.iaload, 1) := by decide +kernel
theorem dX4_twin_18 : decode cX4_twin 18 = .ok (.ifCond .le 17, 3) := by decide +kernel
theorem dX4_twin_21 : decode cX4_twin 21 = .ok (.aload_n 0, 1) := by decide +kernel
theorem dX4_twin_22 : decode cX4_twin 22 = .ok (.bipush 15, 2) := by decide +kernel
theorem dX4_twin_24 : decode cX4_twin 24 = .ok (.iload_n 3, 1) := by decide +kernel
theorem dX4_twin_25 : decode cX4_twin 25 = .ok (.iadd, 1) := by decide +kernel
theorem dX4_twin_26 : decode cX4_twin 26 = .ok (.iaload, 1) := by decide +kernel
theorem dX4_twin_27 : decode cX4_twin 27 = .ok (.iconst 2, 1) := by decide +kernel
theorem dX4_twin_28 : decode cX4_twin 28 = .ok (.if_icmp .eq 7, 3) := by decide +kernel
theorem dX4_twin_31 : decode cX4_twin 31 = .ok (.iconst 1, 1) := by decide +kernel
theorem dX4_twin_32 : decode cX4_twin 32 = .ok (.goto 4, 3) := by decide +kernel
theorem dX4_twin_35 : decode cX4_twin 35 = .ok (.iconst 0, 1) := by decide +kernel
theorem dX4_twin_36 : decode cX4_twin 36 = .ok (.istore 4, 2) := by decide +kernel
theorem dX4_twin_38 : decode cX4_twin 38 = .ok (.iload 4, 2) := by decide +kernel
theorem dX4_twin_40 : decode cX4_twin 40 = .ok (.ifCond .eq 14, 3) := by decide +kernel
theorem dX4_twin_43 : decode cX4_twin 43 = .ok (.aload_n 0, 1) := by decide +kernel
theorem dX4_twin_44 : decode cX4_twin 44 = .ok (.iload_n 1, 1) := by decide +kernel
theorem dX4_twin_45 : decode cX4_twin 45 = .ok (.iload_n 3, 1) := by decide +kernel
theorem dX4_twin_46 : decode cX4_twin 46 = .ok (.invokestatic 60, 3) := by decide +kernel
theorem dX4_twin_49 : decode cX4_twin 49 = .ok (.ifCond .eq 5, 3) := by decide +kernel
theorem dX4_twin_52 : decode cX4_twin 52 = .ok (.iload_n 3, 1) := by decide +kernel
theorem dX4_twin_53 : decode cX4_twin 53 = .ok (.ireturn, 1) := by decide +kernel
theorem dX4_twin_54 : decode cX4_twin 54 = .ok (.iinc 3 1, 3) := by decide +kernel
theorem dX4_twin_57 : decode cX4_twin 57 = .ok (.goto (-55), 3) := by decide +kernel
theorem dX4_twin_60 : decode cX4_twin 60 = .ok (.bipush (-6), 2) := by decide +kernel
theorem dX4_twin_62 : decode cX4_twin 62 = .ok (.ireturn, 1) := by decide +kernel
theorem dX4_runsIn_0 : decode cX4_runsIn 0 = .ok (.iconst 0, 1) := by decide +kernel
theorem dX4_runsIn_1 : decode cX4_runsIn 1 = .ok (.istore_n 2, 1) := by decide +kernel
theorem dX4_runsIn_2 : decode cX4_runsIn 2 = .ok (.iconst 0, 1) := by decide +kernel
theorem dX4_runsIn_3 : decode cX4_runsIn 3 = .ok (.istore_n 3, 1) := by decide +kernel
theorem dX4_runsIn_4 : decode cX4_runsIn 4 = .ok (.iload_n 3, 1) := by decide +kernel
theorem dX4_runsIn_5 : decode cX4_runsIn 5 = .ok (.bipush 16, 2) := by decide +kernel
theorem dX4_runsIn_7 : decode cX4_runsIn 7 = .ok (.if_icmp .ge 33, 3) := by decide +kernel
theorem dX4_runsIn_10 : decode cX4_runsIn 10 = .ok (.aload_n 0, 1) := by decide +kernel
theorem dX4_runsIn_11 : decode cX4_runsIn 11 = .ok (.iload_n 1, 1) := by decide +kernel
theorem dX4_runsIn_12 : decode cX4_runsIn 12 = .ok (.iload_n 3, 1) := by decide +kernel
theorem dX4_runsIn_13 : decode cX4_runsIn 13 = .ok (.invokestatic 53, 3) := by decide +kernel
theorem dX4_runsIn_16 : decode cX4_runsIn 16 = .ok (.iaload, 1) := by decide +kernel
theorem dX4_runsIn_17 : decode cX4_runsIn 17 = .ok (.istore 4, 2) := by decide +kernel
theorem dX4_runsIn_19 : decode cX4_runsIn 19 = .ok (.iload_n 2, 1) := by decide +kernel
theorem dX4_runsIn_20 : decode cX4_runsIn 20 = .ok (.iload 4, 2) := by decide +kernel
theorem dX4_runsIn_22 : decode cX4_runsIn 22 = .ok (.iload 4, 2) := by decide +kernel
theorem dX4_runsIn_24 : decode cX4_runsIn 24 = .ok (.iconst 1, 1) := by decide +kernel
theorem dX4_runsIn_25 : decode cX4_runsIn 25 = .ok (.ishl, 1) := by decide +kernel
theorem dX4_runsIn_26 : decode cX4_runsIn 26 = .ok (.iconst (-1), 1) := by decide +kernel
theorem dX4_runsIn_27 : decode cX4_runsIn 27 = .ok (.ixor, 1) := by decide +kernel
theorem dX4_runsIn_28 : decode cX4_runsIn 28 = .ok (.iand, 1) := by decide +kernel
theorem dX4_runsIn_29 : decode cX4_runsIn 29 = .ok (.invokestatic 57, 3) := by decide +kernel
theorem dX4_runsIn_32 : decode cX4_runsIn 32 = .ok (.iadd, 1) := by decide +kernel
theorem dX4_runsIn_33 : decode cX4_runsIn 33 = .ok (.istore_n 2, 1) := by decide +kernel
theorem dX4_runsIn_34 : decode cX4_runsIn 34 = .ok (.iinc 3 1, 3) := by decide +kernel
theorem dX4_runsIn_37 : decode cX4_runsIn 37 = .ok (.goto (-33), 3) := by decide +kernel
theorem dX4_runsIn_40 : decode cX4_runsIn 40 = .ok (.iload_n 2, 1) := by decide +kernel
theorem dX4_runsIn_41 : decode cX4_runsIn 41 = .ok (.ireturn, 1) := by decide +kernel
theorem dX4_sizeIn_0 : decode cX4_sizeIn 0 = .ok (.aload_n 0, 1) := by decide +kernel
theorem dX4_sizeIn_1 : decode cX4_sizeIn 1 = .ok (.iload_n 1, 1) := by decide +kernel
theorem dX4_sizeIn_2 : decode cX4_sizeIn 2 = .ok (.invokestatic 64, 3) := by decide +kernel
theorem dX4_sizeIn_5 : decode cX4_sizeIn 5 = .ok (.istore 4, 2) := by decide +kernel
theorem dX4_sizeIn_7 : decode cX4_sizeIn 7 = .ok (.iload_n 2, 1) := by decide +kernel
theorem dX4_sizeIn_8 : decode cX4_sizeIn 8 = .ok (.tableswitch 79 0 3 #[32, 44, 62, 70], 32) := by decide +kernel
theorem dX4_sizeIn_40 : decode cX4_sizeIn 40 = .ok (.iload 4, 2) := by decide +kernel
theorem dX4_sizeIn_42 : decode cX4_sizeIn 42 = .ok (.ifCond .ne 7, 3) := by decide +kernel
theorem dX4_sizeIn_45 : decode cX4_sizeIn 45 = .ok (.iconst 0, 1) := by decide +kernel
theorem dX4_sizeIn_46 : decode cX4_sizeIn 46 = .ok (.goto 5, 3) := by decide +kernel
theorem dX4_sizeIn_49 : decode cX4_sizeIn 49 = .ok (.bipush (-6), 2) := by decide +kernel
theorem dX4_sizeIn_51 : decode cX4_sizeIn 51 = .ok (.ireturn, 1) := by decide +kernel
theorem dX4_sizeIn_52 : decode cX4_sizeIn 52 = .ok (.aload_n 0, 1) := by decide +kernel
theorem dX4_sizeIn_53 : decode cX4_sizeIn 53 = .ok (.iload_n 1, 1) := by decide +kernel
theorem dX4_sizeIn_54 : decode cX4_sizeIn 54 = .ok (.iload_n 3, 1) := by decide +kernel
theorem dX4_sizeIn_55 : decode cX4_sizeIn 55 = .ok (.invokestatic 68, 3) := by decide +kernel
theorem dX4_sizeIn_58 : decode cX4_sizeIn 58 = .ok (.bipush (-6), 2) := by decide +kernel
theorem dX4_sizeIn_60 : decode cX4_sizeIn 60 = .ok (.if_icmp .ne 8, 3) := by decide +kernel
theorem dX4_sizeIn_63 : decode cX4_sizeIn 63 = .ok (.bipush (-6), 2) := by decide +kernel
theorem dX4_sizeIn_65 : decode cX4_sizeIn 65 = .ok (.goto 4, 3) := by decide +kernel
theorem dX4_sizeIn_68 : decode cX4_sizeIn 68 = .ok (.iconst 1, 1) := by decide +kernel
theorem dX4_sizeIn_69 : decode cX4_sizeIn 69 = .ok (.ireturn, 1) := by decide +kernel
theorem dX4_sizeIn_70 : decode cX4_sizeIn 70 = .ok (.iconst 1, 1) := by decide +kernel
theorem dX4_sizeIn_71 : decode cX4_sizeIn 71 = .ok (.aload_n 0, 1) := by decide +kernel
theorem dX4_sizeIn_72 : decode cX4_sizeIn 72 = .ok (.iload_n 1, 1) := by decide +kernel
theorem dX4_sizeIn_73 : decode cX4_sizeIn 73 = .ok (.invokestatic 72, 3) := by decide +kernel
theorem dX4_sizeIn_76 : decode cX4_sizeIn 76 = .ok (.iadd, 1) := by decide +kernel
theorem dX4_sizeIn_77 : decode cX4_sizeIn 77 = .ok (.ireturn, 1) := by decide +kernel
theorem dX4_sizeIn_78 : decode cX4_sizeIn 78 = .ok (.iconst 1, 1) := by decide +kernel
theorem dX4_sizeIn_79 : decode cX4_sizeIn 79 = .ok (.iload 4, 2) := by decide +kernel
theorem dX4_sizeIn_81 : decode cX4_sizeIn 81 = .ok (.iconst 2, 1) := by decide +kernel
theorem dX4_sizeIn_82 : decode cX4_sizeIn 82 = .ok (.iadd, 1) := by decide +kernel
theorem dX4_sizeIn_83 : decode cX4_sizeIn 83 = .ok (.iconst 3, 1) := by decide +kernel
theorem dX4_sizeIn_84 : decode cX4_sizeIn 84 = .ok (.idiv, 1) := by decide +kernel
theorem dX4_sizeIn_85 : decode cX4_sizeIn 85 = .ok (.iadd, 1) := by decide +kernel
theorem dX4_sizeIn_86 : decode cX4_sizeIn 86 = .ok (.ireturn, 1) := by decide +kernel
theorem dX4_sizeIn_87 : decode cX4_sizeIn 87 = .ok (.bipush 16, 2) := by decide +kernel
theorem dX4_sizeIn_89 : decode cX4_sizeIn 89 = .ok (.ireturn, 1) := by decide +kernel
theorem dX4_sizeOf_0 : decode cX4_sizeOf 0 = .ok (.aload_n 0, 1) := by decide +kernel
theorem dX4_sizeOf_1 : decode cX4_sizeOf 1 = .ok (.bipush 15, 2) := by decide +kernel
theorem dX4_sizeOf_3 : decode cX4_sizeOf 3 = .ok (.iload_n 1, 1) := by decide +kernel
theorem dX4_sizeOf_4 : decode cX4_sizeOf 4 = .ok (.iadd, 1) := by decide +kernel
theorem dX4_sizeOf_5 : decode cX4_sizeOf 5 = .ok (.iaload, 1) := by decide +kernel
theorem dX4_sizeOf_6 : decode cX4_sizeOf 6 = .ok (.iconst 1, 1) := by decide +kernel
theorem dX4_sizeOf_7 : decode cX4_sizeOf 7 = .ok (.isub, 1) := by decide +kernel
theorem dX4_sizeOf_8 : decode cX4_sizeOf 8 = .ok (.istore_n 2, 1) := by decide +kernel
theorem dX4_sizeOf_9 : decode cX4_sizeOf 9 = .ok (.iload_n 2, 1) := by decide +kernel
theorem dX4_sizeOf_10 : decode cX4_sizeOf 10 = .ok (.ifCond .ge 8, 3) := by decide +kernel
theorem dX4_sizeOf_13 : decode cX4_sizeOf 13 = .ok (.bipush 16, 2) := by decide +kernel
theorem dX4_sizeOf_15 : decode cX4_sizeOf 15 = .ok (.goto 20, 3) := by decide +kernel
theorem dX4_sizeOf_18 : decode cX4_sizeOf 18 = .ok (.iload_n 2, 1) := by decide +kernel
theorem dX4_sizeOf_19 : decode cX4_sizeOf 19 = .ok (.iconst 1, 1) := by decide +kernel
theorem dX4_sizeOf_20 : decode cX4_sizeOf 20 = .ok (.if_icmp .ne 7, 3) := by decide +kernel
theorem dX4_sizeOf_23 : decode cX4_sizeOf 23 = .ok (.iconst 1, 1) := by decide +kernel
theorem dX4_sizeOf_24 : decode cX4_sizeOf 24 = .ok (.goto 11, 3) := by decide +kernel
theorem dX4_sizeOf_27 : decode cX4_sizeOf 27 = .ok (.aload_n 0, 1) := by decide +kernel
theorem dX4_sizeOf_28 : decode cX4_sizeOf 28 = .ok (.iload_n 1, 1) := by decide +kernel
theorem dX4_sizeOf_29 : decode cX4_sizeOf 29 = .ok (.iload_n 2, 1) := by decide +kernel
theorem dX4_sizeOf_30 : decode cX4_sizeOf 30 = .ok (.bipush (-6), 2) := by decide +kernel
theorem dX4_sizeOf_32 : decode cX4_sizeOf 32 = .ok (.invokestatic 75, 3) := by decide +kernel
theorem dX4_sizeOf_35 : decode cX4_sizeOf 35 = .ok (.ireturn, 1) := by decide +kernel
theorem dX4_fold_0 : decode cX4_fold 0 = .ok (.iconst 4, 1) := by decide +kernel
theorem dX4_fold_1 : decode cX4_fold 1 = .ok (.istore_n 3, 1) := by decide +kernel
theorem dX4_fold_2 : decode cX4_fold 2 = .ok (.iconst 3, 1) := by decide +kernel
theorem dX4_fold_3 : decode cX4_fold 3 = .ok (.istore 4, 2) := by decide +kernel
theorem dX4_fold_5 : decode cX4_fold 5 = .ok (.iload 4, 2) := by decide +kernel
theorem dX4_fold_7 : decode cX4_fold 7 = .ok (.ifCond .lt 45, 3) := by decide +kernel
theorem dX4_fold_10 : decode cX4_fold 10 = .ok (.aload_n 0, 1) := by decide +kernel
theorem dX4_fold_11 : decode cX4_fold 11 = .ok (.iload_n 1, 1) := by decide +kernel
theorem dX4_fold_12 : decode cX4_fold 12 = .ok (.iload 4, 2) := by decide +kernel
theorem dX4_fold_14 : decode cX4_fold 14 = .ok (.iload_n 2, 1) := by decide +kernel
theorem dX4_fold_15 : decode cX4_fold 15 = .ok (.invokestatic 75, 3) := by decide +kernel
theorem dX4_fold_18 : decode cX4_fold 18 = .ok (.istore 5, 2) := by decide +kernel
theorem dX4_fold_20 : decode cX4_fold 20 = .ok (.iload 5, 2) := by decide +kernel
theorem dX4_fold_22 : decode cX4_fold 22 = .ok (.bipush (-6), 2) := by decide +kernel
theorem dX4_fold_24 : decode cX4_fold 24 = .ok (.if_icmp .eq 20, 3) := by decide +kernel
theorem dX4_fold_27 : decode cX4_fold 27 = .ok (.iload 5, 2) := by decide +kernel
theorem dX4_fold_29 : decode cX4_fold 29 = .ok (.aload_n 0, 1) := by decide +kernel
theorem dX4_fold_30 : decode cX4_fold 30 = .ok (.iload_n 1, 1) := by decide +kernel
theorem dX4_fold_31 : decode cX4_fold 31 = .ok (.iload_n 3, 1) := by decide +kernel
theorem dX4_fold_32 : decode cX4_fold 32 = .ok (.iload_n 2, 1) := by decide +kernel
theorem dX4_fold_33 : decode cX4_fold 33 = .ok (.invokestatic 75, 3) := by decide +kernel
theorem dX4_fold_36 : decode cX4_fold 36 = .ok (.if_icmp .gt 8, 3) := by decide +kernel
theorem dX4_fold_39 : decode cX4_fold 39 = .ok (.iload 4, 2) := by decide +kernel
theorem dX4_fold_41 : decode cX4_fold 41 = .ok (.goto 4, 3) := by decide +kernel
theorem dX4_fold_44 : decode cX4_fold 44 = .ok (.iload_n 3, 1) := by decide +kernel
theorem dX4_fold_45 : decode cX4_fold 45 = .ok (.istore_n 3, 1) := by decide +kernel
theorem dX4_fold_46 : decode cX4_fold 46 = .ok (.iinc 4 (-1), 3) := by decide +kernel
theorem dX4_fold_49 : decode cX4_fold 49 = .ok (.goto (-44), 3) := by decide +kernel
theorem dX4_fold_52 : decode cX4_fold 52 = .ok (.aload_n 0, 1) := by decide +kernel
theorem dX4_fold_53 : decode cX4_fold 53 = .ok (.sipush 135, 3) := by decide +kernel
theorem dX4_fold_56 : decode cX4_fold 56 = .ok (.iload_n 1, 1) := by decide +kernel
theorem dX4_fold_57 : decode cX4_fold 57 = .ok (.iadd, 1) := by decide +kernel
theorem dX4_fold_58 : decode cX4_fold 58 = .ok (.iload_n 3, 1) := by decide +kernel
theorem dX4_fold_59 : decode cX4_fold 59 = .ok (.iconst 1, 1) := by decide +kernel
theorem dX4_fold_60 : decode cX4_fold 60 = .ok (.if_icmp .ne 12, 3) := by decide +kernel
theorem dX4_fold_63 : decode cX4_fold 63 = .ok (.aload_n 0, 1) := by decide +kernel
theorem dX4_fold_64 : decode cX4_fold 64 = .ok (.iload_n 1, 1) := by decide +kernel
theorem dX4_fold_65 : decode cX4_fold 65 = .ok (.iload_n 2, 1) := by decide +kernel
theorem dX4_fold_66 : decode cX4_fold 66 = .ok (.invokestatic 68, 3) := by decide +kernel
theorem dX4_fold_69 : decode cX4_fold 69 = .ok (.goto 4, 3) := by decide +kernel
theorem dX4_fold_72 : decode cX4_fold 72 = .ok (.iconst 0, 1) := by decide +kernel
theorem dX4_fold_73 : decode cX4_fold 73 = .ok (.iastore, 1) := by decide +kernel
theorem dX4_fold_74 : decode cX4_fold 74 = .ok (.aload_n 0, 1) := by decide +kernel
theorem dX4_fold_75 : decode cX4_fold 75 = .ok (.bipush 15, 2) := by decide +kernel
theorem dX4_fold_77 : decode cX4_fold 77 = .ok (.iload_n 1, 1) := by decide +kernel
theorem dX4_fold_78 : decode cX4_fold 78 = .ok (.iadd, 1) := by decide +kernel
theorem dX4_fold_79 : decode cX4_fold 79 = .ok (.iload_n 3, 1) := by decide +kernel
theorem dX4_fold_80 : decode cX4_fold 80 = .ok (.iconst 1, 1) := by decide +kernel
theorem dX4_fold_81 : decode cX4_fold 81 = .ok (.iadd, 1) := by decide +kernel
theorem dX4_fold_82 : decode cX4_fold 82 = .ok (.iastore, 1) := by decide +kernel
theorem dX4_fold_83 : decode cX4_fold 83 = .ok (.aload_n 0, 1) := by decide +kernel
theorem dX4_fold_84 : decode cX4_fold 84 = .ok (.iconst 3, 1) := by decide +kernel
theorem dX4_fold_85 : decode cX4_fold 85 = .ok (.dup2, 1) := by decide +kernel
theorem dX4_fold_86 : decode cX4_fold 86 = .ok (.iaload, 1) := by decide +kernel
theorem dX4_fold_87 : decode cX4_fold 87 = .ok (.aload_n 0, 1) := by decide +kernel
theorem dX4_fold_88 : decode cX4_fold 88 = .ok (.iload_n 1, 1) := by decide +kernel
theorem dX4_fold_89 : decode cX4_fold 89 = .ok (.invokestatic 79, 3) := by decide +kernel
theorem dX4_fold_92 : decode cX4_fold 92 = .ok (.iadd, 1) := by decide +kernel
theorem dX4_fold_93 : decode cX4_fold 93 = .ok (.iastore, 1) := by decide +kernel
theorem dX4_fold_94 : decode cX4_fold 94 = .ok (.aload_n 0, 1) := by decide +kernel
theorem dX4_fold_95 : decode cX4_fold 95 = .ok (.iconst 5, 1) := by decide +kernel
theorem dX4_fold_96 : decode cX4_fold 96 = .ok (.dup2, 1) := by decide +kernel
theorem dX4_fold_97 : decode cX4_fold 97 = .ok (.iaload, 1) := by decide +kernel
theorem dX4_fold_98 : decode cX4_fold 98 = .ok (.iconst 1, 1) := by decide +kernel
theorem dX4_fold_99 : decode cX4_fold 99 = .ok (.iadd, 1) := by decide +kernel
theorem dX4_fold_100 : decode cX4_fold 100 = .ok (.iastore, 1) := by decide +kernel
theorem dX4_fold_101 : decode cX4_fold 101 = .ok (.return_, 1) := by decide +kernel
theorem dX4_placeOf_0 : decode cX4_placeOf 0 = .ok (.iconst 0, 1) := by decide +kernel
theorem dX4_placeOf_1 : decode cX4_placeOf 1 = .ok (.istore_n 2, 1) := by decide +kernel
theorem dX4_placeOf_2 : decode cX4_placeOf 2 = .ok (.iload_n 2, 1) := by decide +kernel
theorem dX4_placeOf_3 : decode cX4_placeOf 3 = .ok (.aload_n 0, 1) := by decide +kernel
theorem dX4_placeOf_4 : decode cX4_placeOf 4 = .ok (.bipush 6, 2) := by decide +kernel
theorem dX4_placeOf_6 : decode cX4_placeOf 6 = .ok (.iaload, 1) := by decide +kernel
theorem dX4_placeOf_7 : decode cX4_placeOf 7 = .ok (.if_icmp .ge 21, 3) := by decide +kernel
theorem dX4_placeOf_10 : decode cX4_placeOf 10 = .ok (.aload_n 0, 1) := by decide +kernel
theorem dX4_placeOf_11 : decode cX4_placeOf 11 = .ok (.bipush 7, 2) := by decide +kernel
theorem dX4_placeOf_13 : decode cX4_placeOf 13 = .ok (.iload_n 2, 1) := by decide +kernel
theorem dX4_placeOf_14 : decode cX4_placeOf 14 = .ok (.iadd, 1) := by decide +kernel
theorem dX4_placeOf_15 : decode cX4_placeOf 15 = .ok (.iaload, 1) := by decide +kernel
theorem dX4_placeOf_16 : decode cX4_placeOf 16 = .ok (.iload_n 1, 1) := by decide +kernel
theorem dX4_placeOf_17 : decode cX4_placeOf 17 = .ok (.if_icmp .ne 5, 3) := by decide +kernel
theorem dX4_placeOf_20 : decode cX4_placeOf 20 = .ok (.iload_n 2, 1) := by decide +kernel
theorem dX4_placeOf_21 : decode cX4_placeOf 21 = .ok (.ireturn, 1) := by decide +kernel
theorem dX4_placeOf_22 : decode cX4_placeOf 22 = .ok (.iinc 2 1, 3) := by decide +kernel
theorem dX4_placeOf_25 : decode cX4_placeOf 25 = .ok (.goto (-23), 3) := by decide +kernel
theorem dX4_placeOf_28 : decode cX4_placeOf 28 = .ok (.bipush (-6), 2) := by decide +kernel
theorem dX4_placeOf_30 : decode cX4_placeOf 30 = .ok (.ireturn, 1) := by decide +kernel
theorem dX4_takeOut_0 : decode cX4_takeOut 0 = .ok (.aload_n 0, 1) := by decide +kernel
theorem dX4_takeOut_1 : decode cX4_takeOut 1 = .ok (.bipush 6, 2) := by decide +kernel
theorem dX4_takeOut_3 : decode cX4_takeOut 3 = .ok (.dup2, 1) := by decide +kernel
theorem dX4_takeOut_4 : decode cX4_takeOut 4 = .ok (.iaload, 1) := by decide +kernel
theorem dX4_takeOut_5 : decode cX4_takeOut 5 = .ok (.iconst 1, 1) := by decide +kernel
theorem dX4_takeOut_6 : decode cX4_takeOut 6 = .ok (.isub, 1) := by decide +kernel
theorem dX4_takeOut_7 : decode cX4_takeOut 7 = .ok (.iastore, 1) := by decide +kernel
theorem dX4_takeOut_8 : decode cX4_takeOut 8 = .ok (.iload_n 1, 1) := by decide +kernel
theorem dX4_takeOut_9 : decode cX4_takeOut 9 = .ok (.istore_n 2, 1) := by decide +kernel
theorem dX4_takeOut_10 : decode cX4_takeOut 10 = .ok (.iload_n 2, 1) := by decide +kernel
theorem dX4_takeOut_11 : decode cX4_takeOut 11 = .ok (.aload_n 0, 1) := by decide +kernel
theorem dX4_takeOut_12 : decode cX4_takeOut 12 = .ok (.bipush 6, 2) := by decide +kernel
theorem dX4_takeOut_14 : decode cX4_takeOut 14 = .ok (.iaload, 1) := by decide +kernel
theorem dX4_takeOut_15 : decode cX4_takeOut 15 = .ok (.if_icmp .ge 23, 3) := by decide +kernel
theorem dX4_takeOut_18 : decode cX4_takeOut 18 = .ok (.aload_n 0, 1) := by decide +kernel
theorem dX4_takeOut_19 : decode cX4_takeOut 19 = .ok (.bipush 7, 2) := by decide +kernel
theorem dX4_takeOut_21 : decode cX4_takeOut 21 = .ok (.iload_n 2, 1) := by decide +kernel
theorem dX4_takeOut_22 : decode cX4_takeOut 22 = .ok (.iadd, 1) := by decide +kernel
theorem dX4_takeOut_23 : decode cX4_takeOut 23 = .ok (.aload_n 0, 1) := by decide +kernel
theorem dX4_takeOut_24 : decode cX4_takeOut 24 = .ok (.bipush 7, 2) := by decide +kernel
theorem dX4_takeOut_26 : decode cX4_takeOut 26 = .ok (.iload_n 2, 1) := by decide +kernel
theorem dX4_takeOut_27 : decode cX4_takeOut 27 = .ok (.iadd, 1) := by decide +kernel
theorem dX4_takeOut_28 : decode cX4_takeOut 28 = .ok (.iconst 1, 1) := by decide +kernel
theorem dX4_takeOut_29 : decode cX4_takeOut 29 = .ok (.iadd, 1) := by decide +kernel
theorem dX4_takeOut_30 : decode cX4_takeOut 30 = .ok (.iaload, 1) := by decide +kernel
theorem dX4_takeOut_31 : decode cX4_takeOut 31 = .ok (.iastore, 1) := by decide +kernel
theorem dX4_takeOut_32 : decode cX4_takeOut 32 = .ok (.iinc 2 1, 3) := by decide +kernel
theorem dX4_takeOut_35 : decode cX4_takeOut 35 = .ok (.goto (-25), 3) := by decide +kernel
theorem dX4_takeOut_38 : decode cX4_takeOut 38 = .ok (.return_, 1) := by decide +kernel
theorem dX4_foldAgain_0 : decode cX4_foldAgain 0 = .ok (.aload_n 0, 1) := by decide +kernel
theorem dX4_foldAgain_1 : decode cX4_foldAgain 1 = .ok (.bipush 6, 2) := by decide +kernel
theorem dX4_foldAgain_3 : decode cX4_foldAgain 3 = .ok (.iaload, 1) := by decide +kernel
theorem dX4_foldAgain_4 : decode cX4_foldAgain 4 = .ok (.aload_n 0, 1) := by decide +kernel
theorem dX4_foldAgain_5 : decode cX4_foldAgain 5 = .ok (.iconst 2, 1) := by decide +kernel
theorem dX4_foldAgain_6 : decode cX4_foldAgain 6 = .ok (.iaload, 1) := by decide +kernel
theorem dX4_foldAgain_7 : decode cX4_foldAgain 7 = .ok (.if_icmp .le 23, 3) := by decide +kernel
theorem dX4_foldAgain_10 : decode cX4_foldAgain 10 = .ok (.aload_n 0, 1) := by decide +kernel
theorem dX4_foldAgain_11 : decode cX4_foldAgain 11 = .ok (.bipush 7, 2) := by decide +kernel
theorem dX4_foldAgain_13 : decode cX4_foldAgain 13 = .ok (.iaload, 1) := by decide +kernel
theorem dX4_foldAgain_14 : decode cX4_foldAgain 14 = .ok (.istore_n 1, 1) := by decide +kernel
theorem dX4_foldAgain_15 : decode cX4_foldAgain 15 = .ok (.aload_n 0, 1) := by decide +kernel
theorem dX4_foldAgain_16 : decode cX4_foldAgain 16 = .ok (.iconst 0, 1) := by decide +kernel
theorem dX4_foldAgain_17 : decode cX4_foldAgain 17 = .ok (.invokestatic 82, 3) := by decide +kernel
theorem dX4_foldAgain_20 : decode cX4_foldAgain 20 = .ok (.aload_n 0, 1) := by decide +kernel
theorem dX4_foldAgain_21 : decode cX4_foldAgain 21 = .ok (.iload_n 1, 1) := by decide +kernel
theorem dX4_foldAgain_22 : decode cX4_foldAgain 22 = .ok (.bipush (-6), 2) := by decide +kernel
theorem dX4_foldAgain_24 : decode cX4_foldAgain 24 = .ok (.invokestatic 86, 3) := by decide +kernel
theorem dX4_foldAgain_27 : decode cX4_foldAgain 27 = .ok (.goto (-27), 3) := by decide +kernel
theorem dX4_foldAgain_30 : decode cX4_foldAgain 30 = .ok (.return_, 1) := by decide +kernel
theorem dX4_unfold_0 : decode cX4_unfold 0 = .ok (.aload_n 0, 1) := by decide +kernel
theorem dX4_unfold_1 : decode cX4_unfold 1 = .ok (.iconst 3, 1) := by decide +kernel
theorem dX4_unfold_2 : decode cX4_unfold 2 = .ok (.dup2, 1) := by decide +kernel
theorem dX4_unfold_3 : decode cX4_unfold 3 = .ok (.iaload, 1) := by decide +kernel
theorem dX4_unfold_4 : decode cX4_unfold 4 = .ok (.aload_n 0, 1) := by decide +kernel
theorem dX4_unfold_5 : decode cX4_unfold 5 = .ok (.iload_n 1, 1) := by decide +kernel
theorem dX4_unfold_6 : decode cX4_unfold 6 = .ok (.invokestatic 79, 3) := by decide +kernel
theorem dX4_unfold_9 : decode cX4_unfold 9 = .ok (.iadd, 1) := by decide +kernel
theorem dX4_unfold_10 : decode cX4_unfold 10 = .ok (.iastore, 1) := by decide +kernel
theorem dX4_unfold_11 : decode cX4_unfold 11 = .ok (.aload_n 0, 1) := by decide +kernel
theorem dX4_unfold_12 : decode cX4_unfold 12 = .ok (.iconst 4, 1) := by decide +kernel
theorem dX4_unfold_13 : decode cX4_unfold 13 = .ok (.dup2, 1) := by decide +kernel
theorem dX4_unfold_14 : decode cX4_unfold 14 = .ok (.iaload, 1) := by decide +kernel
theorem dX4_unfold_15 : decode cX4_unfold 15 = .ok (.iconst 1, 1) := by decide +kernel
theorem dX4_unfold_16 : decode cX4_unfold 16 = .ok (.iadd, 1) := by decide +kernel
theorem dX4_unfold_17 : decode cX4_unfold 17 = .ok (.iastore, 1) := by decide +kernel
theorem dX4_unfold_18 : decode cX4_unfold 18 = .ok (.aload_n 0, 1) := by decide +kernel
theorem dX4_unfold_19 : decode cX4_unfold 19 = .ok (.bipush 15, 2) := by decide +kernel
theorem dX4_unfold_21 : decode cX4_unfold 21 = .ok (.iload_n 1, 1) := by decide +kernel
theorem dX4_unfold_22 : decode cX4_unfold 22 = .ok (.iadd, 1) := by decide +kernel
theorem dX4_unfold_23 : decode cX4_unfold 23 = .ok (.iconst 0, 1) := by decide +kernel
theorem dX4_unfold_24 : decode cX4_unfold 24 = .ok (.iastore, 1) := by decide +kernel
theorem dX4_unfold_25 : decode cX4_unfold 25 = .ok (.return_, 1) := by decide +kernel
theorem dX4_toEnd_0 : decode cX4_toEnd 0 = .ok (.aload_n 0, 1) := by decide +kernel
theorem dX4_toEnd_1 : decode cX4_toEnd 1 = .ok (.iload_n 1, 1) := by decide +kernel
theorem dX4_toEnd_2 : decode cX4_toEnd 2 = .ok (.invokestatic 90, 3) := by decide +kernel
theorem dX4_toEnd_5 : decode cX4_toEnd 5 = .ok (.istore_n 2, 1) := by decide +kernel
theorem dX4_toEnd_6 : decode cX4_toEnd 6 = .ok (.iload_n 2, 1) := by decide +kernel
theorem dX4_toEnd_7 : decode cX4_toEnd 7 = .ok (.bipush (-6), 2) := by decide +kernel
theorem dX4_toEnd_9 : decode cX4_toEnd 9 = .ok (.if_icmp .eq 8, 3) := by decide +kernel
theorem dX4_toEnd_12 : decode cX4_toEnd 12 = .ok (.aload_n 0, 1) := by decide +kernel
theorem dX4_toEnd_13 : decode cX4_toEnd 13 = .ok (.iload_n 2, 1) := by decide +kernel
theorem dX4_toEnd_14 : decode cX4_toEnd 14 = .ok (.invokestatic 82, 3) := by decide +kernel
theorem dX4_toEnd_17 : decode cX4_toEnd 17 = .ok (.aload_n 0, 1) := by decide +kernel
theorem dX4_toEnd_18 : decode cX4_toEnd 18 = .ok (.bipush 7, 2) := by decide +kernel
theorem dX4_toEnd_20 : decode cX4_toEnd 20 = .ok (.aload_n 0, 1) := by decide +kernel
theorem dX4_toEnd_21 : decode cX4_toEnd 21 = .ok (.bipush 6, 2) := by decide +kernel
theorem dX4_toEnd_23 : decode cX4_toEnd 23 = .ok (.iaload, 1) := by decide +kernel
theorem dX4_toEnd_24 : decode cX4_toEnd 24 = .ok (.iadd, 1) := by decide +kernel
theorem dX4_toEnd_25 : decode cX4_toEnd 25 = .ok (.iload_n 1, 1) := by decide +kernel
theorem dX4_toEnd_26 : decode cX4_toEnd 26 = .ok (.iastore, 1) := by decide +kernel
theorem dX4_toEnd_27 : decode cX4_toEnd 27 = .ok (.aload_n 0, 1) := by decide +kernel
theorem dX4_toEnd_28 : decode cX4_toEnd 28 = .ok (.bipush 6, 2) := by decide +kernel
theorem dX4_toEnd_30 : decode cX4_toEnd 30 = .ok (.dup2, 1) := by decide +kernel
theorem dX4_toEnd_31 : decode cX4_toEnd 31 = .ok (.iaload, 1) := by decide +kernel
theorem dX4_toEnd_32 : decode cX4_toEnd 32 = .ok (.iconst 1, 1) := by decide +kernel
theorem dX4_toEnd_33 : decode cX4_toEnd 33 = .ok (.iadd, 1) := by decide +kernel
theorem dX4_toEnd_34 : decode cX4_toEnd 34 = .ok (.iastore, 1) := by decide +kernel
theorem dX4_toEnd_35 : decode cX4_toEnd 35 = .ok (.return_, 1) := by decide +kernel
theorem dX4_look_0 : decode cX4_look 0 = .ok (.aload_n 0, 1) := by decide +kernel
theorem dX4_look_1 : decode cX4_look 1 = .ok (.aload_n 1, 1) := by decide +kernel
theorem dX4_look_2 : decode cX4_look 2 = .ok (.iload_n 2, 1) := by decide +kernel
theorem dX4_look_3 : decode cX4_look 3 = .ok (.invokevirtual 93, 3) := by decide +kernel
theorem dX4_look_6 : decode cX4_look 6 = .ok (.ifCond .eq 13, 3) := by decide +kernel
theorem dX4_look_9 : decode cX4_look 9 = .ok (.aload_n 1, 1) := by decide +kernel
theorem dX4_look_10 : decode cX4_look 10 = .ok (.bipush 15, 2) := by decide +kernel
theorem dX4_look_12 : decode cX4_look 12 = .ok (.iload_n 2, 1) := by decide +kernel
theorem dX4_look_13 : decode cX4_look 13 = .ok (.iadd, 1) := by decide +kernel
theorem dX4_look_14 : decode cX4_look 14 = .ok (.iaload, 1) := by decide +kernel
theorem dX4_look_15 : decode cX4_look 15 = .ok (.iconst 1, 1) := by decide +kernel
theorem dX4_look_16 : decode cX4_look 16 = .ok (.if_icmp .ne 4, 3) := by decide +kernel
theorem dX4_look_19 : decode cX4_look 19 = .ok (.return_, 1) := by decide +kernel
theorem dX4_look_20 : decode cX4_look 20 = .ok (.aload_n 1, 1) := by decide +kernel
theorem dX4_look_21 : decode cX4_look 21 = .ok (.bipush 15, 2) := by decide +kernel
theorem dX4_look_23 : decode cX4_look 23 = .ok (.iload_n 2, 1) := by decide +kernel
theorem dX4_look_24 : decode cX4_look 24 = .ok (.iadd, 1) := by decide +kernel
theorem dX4_look_25 : decode cX4_look 25 = .ok (.iaload, 1) := by decide +kernel
theorem dX4_look_26 : decode cX4_look 26 = .ok (.ifCond .le 8, 3) := by decide +kernel
theorem dX4_look_29 : decode cX4_look 29 = .ok (.aload_n 1, 1) := by decide +kernel
theorem dX4_look_30 : decode cX4_look 30 = .ok (.iload_n 2, 1) := by decide +kernel
theorem dX4_look_31 : decode cX4_look 31 = .ok (.invokestatic 97, 3) := by decide +kernel
theorem dX4_look_34 : decode cX4_look 34 = .ok (.aload_n 1, 1) := by decide +kernel
theorem dX4_look_35 : decode cX4_look 35 = .ok (.iload_n 2, 1) := by decide +kernel
theorem dX4_look_36 : decode cX4_look 36 = .ok (.invokestatic 100, 3) := by decide +kernel
theorem dX4_look_39 : decode cX4_look 39 = .ok (.aload_n 1, 1) := by decide +kernel
theorem dX4_look_40 : decode cX4_look 40 = .ok (.invokestatic 103, 3) := by decide +kernel
theorem dX4_look_43 : decode cX4_look 43 = .ok (.return_, 1) := by decide +kernel
theorem dX4_lay_0 : decode cX4_lay 0 = .ok (.aload_n 0, 1) := by decide +kernel
theorem dX4_lay_1 : decode cX4_lay 1 = .ok (.aload_n 1, 1) := by decide +kernel
theorem dX4_lay_2 : decode cX4_lay 2 = .ok (.iload_n 3, 1) := by decide +kernel
theorem dX4_lay_3 : decode cX4_lay 3 = .ok (.invokevirtual 93, 3) := by decide +kernel
theorem dX4_lay_6 : decode cX4_lay 6 = .ok (.istore 6, 2) := by decide +kernel
theorem dX4_lay_8 : decode cX4_lay 8 = .ok (.iconst 0, 1) := by decide +kernel
theorem dX4_lay_9 : decode cX4_lay 9 = .ok (.istore 7, 2) := by decide +kernel
theorem dX4_lay_11 : decode cX4_lay 11 = .ok (.iload 7, 2) := by decide +kernel
theorem dX4_lay_13 : decode cX4_lay 13 = .ok (.bipush 120, 2) := by decide +kernel
theorem dX4_lay_15 : decode cX4_lay 15 = .ok (.if_icmp .ge 44, 3) := by decide +kernel
theorem dX4_lay_18 : decode cX4_lay 18 = .ok (.iload 6, 2) := by decide +kernel
theorem dX4_lay_20 : decode cX4_lay 20 = .ok (.ifCond .eq 39, 3) := by decide +kernel
theorem dX4_lay_23 : decode cX4_lay 23 = .ok (.aload_n 1, 1) := by decide +kernel
theorem dX4_lay_24 : decode cX4_lay 24 = .ok (.bipush 15, 2) := by decide +kernel
theorem dX4_lay_26 : decode cX4_lay 26 = .ok (.iload 7, 2) := by decide +kernel
theorem dX4_lay_28 : decode cX4_lay 28 = .ok (.iadd, 1) := by decide +kernel
theorem dX4_lay_29 : decode cX4_lay 29 = .ok (.iaload, 1) := by decide +kernel
theorem dX4_lay_30 : decode cX4_lay 30 = .ok (.iconst 2, 1) := by decide +kernel
theorem dX4_lay_31 : decode cX4_lay 31 = .ok (.if_icmp .ne 22, 3) := by decide +kernel
theorem dX4_lay_34 : decode cX4_lay 34 = .ok (.aload_n 1, 1) := by decide +kernel
theorem dX4_lay_35 : decode cX4_lay 35 = .ok (.sipush 135, 3) := by decide +kernel
theorem dX4_lay_38 : decode cX4_lay 38 = .ok (.iload 7, 2) := by decide +kernel
theorem dX4_lay_40 : decode cX4_lay 40 = .ok (.iadd, 1) := by decide +kernel
theorem dX4_lay_41 : decode cX4_lay 41 = .ok (.iaload, 1) := by decide +kernel
theorem dX4_lay_42 : decode cX4_lay 42 = .ok (.iload_n 3, 1) := by decide +kernel
theorem dX4_lay_43 : decode cX4_lay 43 = .ok (.if_icmp .ne 10, 3) := by decide +kernel
theorem dX4_lay_46 : decode cX4_lay 46 = .ok (.aload_n 1, 1) := by decide +kernel
theorem dX4_lay_47 : decode cX4_lay 47 = .ok (.iload 7, 2) := by decide +kernel
theorem dX4_lay_49 : decode cX4_lay 49 = .ok (.iload_n 3, 1) := by decide +kernel
theorem dX4_lay_50 : decode cX4_lay 50 = .ok (.invokestatic 86, 3) := by decide +kernel
theorem dX4_lay_53 : decode cX4_lay 53 = .ok (.iinc 7 1, 3) := by decide +kernel
theorem dX4_lay_56 : decode cX4_lay 56 = .ok (.goto (-45), 3) := by decide +kernel
theorem dX4_lay_59 : decode cX4_lay 59 = .ok (.iload 6, 2) := by decide +kernel
theorem dX4_lay_61 : decode cX4_lay 61 = .ok (.ifCond .eq 17, 3) := by decide +kernel
theorem dX4_lay_64 : decode cX4_lay 64 = .ok (.aload_n 1, 1) := by decide +kernel
theorem dX4_lay_65 : decode cX4_lay 65 = .ok (.bipush 15, 2) := by decide +kernel
theorem dX4_lay_67 : decode cX4_lay 67 = .ok (.iload_n 3, 1) := by decide +kernel
theorem dX4_lay_68 : decode cX4_lay 68 = .ok (.iadd, 1) := by decide +kernel
theorem dX4_lay_69 : decode cX4_lay 69 = .ok (.iaload, 1) := by decide +kernel
theorem dX4_lay_70 : decode cX4_lay 70 = .ok (.ifCond .le 8, 3) := by decide +kernel
theorem dX4_lay_73 : decode cX4_lay 73 = .ok (.aload_n 1, 1) := by decide +kernel
theorem dX4_lay_74 : decode cX4_lay 74 = .ok (.iload_n 3, 1) := by decide +kernel
theorem dX4_lay_75 : decode cX4_lay 75 = .ok (.invokestatic 97, 3) := by decide +kernel
theorem dX4_lay_78 : decode cX4_lay 78 = .ok (.aload_n 1, 1) := by decide +kernel
theorem dX4_lay_79 : decode cX4_lay 79 = .ok (.iload_n 3, 1) := by decide +kernel
theorem dX4_lay_80 : decode cX4_lay 80 = .ok (.iload_n 2, 1) := by decide +kernel
theorem dX4_lay_81 : decode cX4_lay 81 = .ok (.invokestatic 53, 3) := by decide +kernel
theorem dX4_lay_84 : decode cX4_lay 84 = .ok (.iload 5, 2) := by decide +kernel
theorem dX4_lay_86 : decode cX4_lay 86 = .ok (.ifCond .eq 16, 3) := by decide +kernel
theorem dX4_lay_89 : decode cX4_lay 89 = .ok (.aload_n 1, 1) := by decide +kernel
theorem dX4_lay_90 : decode cX4_lay 90 = .ok (.iload_n 3, 1) := by decide +kernel
theorem dX4_lay_91 : decode cX4_lay 91 = .ok (.iload_n 2, 1) := by decide +kernel
theorem dX4_lay_92 : decode cX4_lay 92 = .ok (.invokestatic 53, 3) := by decide +kernel
theorem dX4_lay_95 : decode cX4_lay 95 = .ok (.iaload, 1) := by decide +kernel
theorem dX4_lay_96 : decode cX4_lay 96 = .ok (.iload 4, 2) := by decide +kernel
theorem dX4_lay_98 : decode cX4_lay 98 = .ok (.ior, 1) := by decide +kernel
theorem dX4_lay_99 : decode cX4_lay 99 = .ok (.goto 15, 3) := by decide +kernel
theorem dX4_lay_102 : decode cX4_lay 102 = .ok (.aload_n 1, 1) := by decide +kernel
theorem dX4_lay_103 : decode cX4_lay 103 = .ok (.iload_n 3, 1) := by decide +kernel
theorem dX4_lay_104 : decode cX4_lay 104 = .ok (.iload_n 2, 1) := by decide +kernel
theorem dX4_lay_105 : decode cX4_lay 105 = .ok (.invokestatic 53, 3) := by decide +kernel
theorem dX4_lay_108 : decode cX4_lay 108 = .ok (.iaload, 1) := by decide +kernel
theorem dX4_lay_109 : decode cX4_lay 109 = .ok (.iload 4, 2) := by decide +kernel
theorem dX4_lay_111 : decode cX4_lay 111 = .ok (.iconst (-1), 1) := by decide +kernel
theorem dX4_lay_112 : decode cX4_lay 112 = .ok (.ixor, 1) := by decide +kernel
theorem dX4_lay_113 : decode cX4_lay 113 = .ok (.iand, 1) := by decide +kernel
theorem dX4_lay_114 : decode cX4_lay 114 = .ok (.iastore, 1) := by decide +kernel
theorem dX4_lay_115 : decode cX4_lay 115 = .ok (.iload 6, 2) := by decide +kernel
theorem dX4_lay_117 : decode cX4_lay 117 = .ok (.ifCond .eq 12, 3) := by decide +kernel
theorem dX4_lay_120 : decode cX4_lay 120 = .ok (.aload_n 1, 1) := by decide +kernel
theorem dX4_lay_121 : decode cX4_lay 121 = .ok (.iload_n 3, 1) := by decide +kernel
theorem dX4_lay_122 : decode cX4_lay 122 = .ok (.invokestatic 100, 3) := by decide +kernel
theorem dX4_lay_125 : decode cX4_lay 125 = .ok (.aload_n 1, 1) := by decide +kernel
theorem dX4_lay_126 : decode cX4_lay 126 = .ok (.invokestatic 103, 3) := by decide +kernel
theorem dX4_lay_129 : decode cX4_lay 129 = .ok (.return_, 1) := by decide +kernel
theorem dX4_record_0 : decode cX4_record 0 = .ok (.aload_n 0, 1) := by decide +kernel
theorem dX4_record_1 : decode cX4_record 1 = .ok (.getfield 107, 3) := by decide +kernel
theorem dX4_record_4 : decode cX4_record 4 = .ok (.bipush 6, 2) := by decide +kernel
theorem dX4_record_6 : decode cX4_record 6 = .ok (.if_icmp .ne 44, 3) := by decide +kernel
theorem dX4_record_9 : decode cX4_record 9 = .ok (.iconst 0, 1) := by decide +kernel
theorem dX4_record_10 : decode cX4_record 10 = .ok (.istore_n 1, 1) := by decide +kernel
theorem dX4_record_11 : decode cX4_record 11 = .ok (.iload_n 1, 1) := by decide +kernel
theorem dX4_record_12 : decode cX4_record 12 = .ok (.sipush 10875, 3) := by decide +kernel
theorem dX4_record_15 : decode cX4_record 15 = .ok (.if_icmp .ge 25, 3) := by decide +kernel
theorem dX4_record_18 : decode cX4_record 18 = .ok (.aload_n 0, 1) := by decide +kernel
theorem dX4_record_19 : decode cX4_record 19 = .ok (.getfield 16, 3) := by decide +kernel
theorem dX4_record_22 : decode cX4_record 22 = .ok (.iload_n 1, 1) := by decide +kernel
theorem dX4_record_23 : decode cX4_record 23 = .ok (.aload_n 0, 1) := by decide +kernel
theorem dX4_record_24 : decode cX4_record 24 = .ok (.getfield 16, 3) := by decide +kernel
theorem dX4_record_27 : decode cX4_record 27 = .ok (.iload_n 1, 1) := by decide +kernel
theorem dX4_record_28 : decode cX4_record 28 = .ok (.sipush 2175, 3) := by decide +kernel
theorem dX4_record_31 : decode cX4_record 31 = .ok (.iadd, 1) := by decide +kernel
theorem dX4_record_32 : decode cX4_record 32 = .ok (.iaload, 1) := by decide +kernel
theorem dX4_record_33 : decode cX4_record 33 = .ok (.iastore, 1) := by decide +kernel
theorem dX4_record_34 : decode cX4_record 34 = .ok (.iinc 1 1, 3) := by decide +kernel
theorem dX4_record_37 : decode cX4_record 37 = .ok (.goto (-26), 3) := by decide +kernel
theorem dX4_record_40 : decode cX4_record 40 = .ok (.aload_n 0, 1) := by decide +kernel
theorem dX4_record_41 : decode cX4_record 41 = .ok (.dup, 1) := by decide +kernel
theorem dX4_record_42 : decode cX4_record 42 = .ok (.getfield 107, 3) := by decide +kernel
theorem dX4_record_45 : decode cX4_record 45 = .ok (.iconst 1, 1) := by decide +kernel
theorem dX4_record_46 : decode cX4_record 46 = .ok (.isub, 1) := by decide +kernel
theorem dX4_record_47 : decode cX4_record 47 = .ok (.putfield 107, 3) := by decide +kernel
theorem dX4_record_50 : decode cX4_record 50 = .ok (.aload_n 0, 1) := by decide +kernel
theorem dX4_record_51 : decode cX4_record 51 = .ok (.getfield 7, 3) := by decide +kernel
theorem dX4_record_54 : decode cX4_record 54 = .ok (.iconst 0, 1) := by decide +kernel
theorem dX4_record_55 : decode cX4_record 55 = .ok (.aload_n 0, 1) := by decide +kernel
theorem dX4_record_56 : decode cX4_record 56 = .ok (.getfield 16, 3) := by decide +kernel
theorem dX4_record_59 : decode cX4_record 59 = .ok (.sipush 2175, 3) := by decide +kernel
theorem dX4_record_62 : decode cX4_record 62 = .ok (.aload_n 0, 1) := by decide +kernel
theorem dX4_record_63 : decode cX4_record 63 = .ok (.getfield 107, 3) := by decide +kernel
theorem dX4_record_66 : decode cX4_record 66 = .ok (.imul, 1) := by decide +kernel
theorem dX4_record_67 : decode cX4_record 67 = .ok (.invokestatic 111, 3) := by decide +kernel
theorem dX4_record_70 : decode cX4_record 70 = .ok (.aload_n 0, 1) := by decide +kernel
theorem dX4_record_71 : decode cX4_record 71 = .ok (.dup, 1) := by decide +kernel
theorem dX4_record_72 : decode cX4_record 72 = .ok (.getfield 107, 3) := by decide +kernel
theorem dX4_record_75 : decode cX4_record 75 = .ok (.iconst 1, 1) := by decide +kernel
theorem dX4_record_76 : decode cX4_record 76 = .ok (.iadd, 1) := by decide +kernel
theorem dX4_record_77 : decode cX4_record 77 = .ok (.putfield 107, 3) := by decide +kernel
theorem dX4_record_80 : decode cX4_record 80 = .ok (.return_, 1) := by decide +kernel
theorem dX4_set_0 : decode cX4_set 0 = .ok (.iload_n 1, 1) := by decide +kernel
theorem dX4_set_1 : decode cX4_set 1 = .ok (.ifCond .ne 15, 3) := by decide +kernel
theorem dX4_set_4 : decode cX4_set 4 = .ok (.iload_n 2, 1) := by decide +kernel
theorem dX4_set_5 : decode cX4_set 5 = .ok (.i2l, 1) := by decide +kernel
theorem dX4_set_6 : decode cX4_set 6 = .ok (.lconst 1, 1) := by decide +kernel
theorem dX4_set_7 : decode cX4_set 7 = .ok (.ldc2_w 115, 3) := by decide +kernel
theorem dX4_set_10 : decode cX4_set 10 = .ok (.invokestatic 34, 3) := by decide +kernel
theorem dX4_set_13 : decode cX4_set 13 = .ok (.ifCond .ne 20, 3) := by decide +kernel
theorem dX4_set_16 : decode cX4_set 16 = .ok (.iload_n 1, 1) := by decide +kernel
theorem dX4_set_17 : decode cX4_set 17 = .ok (.iconst 1, 1) := by decide +kernel
theorem dX4_set_18 : decode cX4_set 18 = .ok (.if_icmp .ne 19, 3) := by decide +kernel
theorem dX4_set_21 : decode cX4_set 21 = .ok (.iload_n 2, 1) := by decide +kernel
theorem dX4_set_22 : decode cX4_set 22 = .ok (.i2l, 1) := by decide +kernel
theorem dX4_set_23 : decode cX4_set 23 = .ok (.lconst 0, 1) := by decide +kernel
theorem dX4_set_24 : decode cX4_set 24 = .ok (.ldc2_w 117, 3) := by decide +kernel
theorem dX4_set_27 : decode cX4_set 27 = .ok (.invokestatic 34, 3) := by decide +kernel
theorem dX4_set_30 : decode cX4_set 30 = .ok (.ifCond .eq 7, 3) := by decide +kernel
theorem dX4_set_33 : decode cX4_set 33 = .ok (.iconst 1, 1) := by decide +kernel
theorem dX4_set_34 : decode cX4_set 34 = .ok (.goto 4, 3) := by decide +kernel
theorem dX4_set_37 : decode cX4_set 37 = .ok (.iconst 0, 1) := by decide +kernel
theorem dX4_set_38 : decode cX4_set 38 = .ok (.istore_n 3, 1) := by decide +kernel
theorem dX4_set_39 : decode cX4_set 39 = .ok (.iload_n 3, 1) := by decide +kernel
theorem dX4_set_40 : decode cX4_set 40 = .ok (.ifCond .ne 6, 3) := by decide +kernel
theorem dX4_set_43 : decode cX4_set 43 = .ok (.bipush (-2), 2) := by decide +kernel
theorem dX4_set_45 : decode cX4_set 45 = .ok (.ireturn, 1) := by decide +kernel
theorem dX4_set_46 : decode cX4_set 46 = .ok (.iload_n 1, 1) := by decide +kernel
theorem dX4_set_47 : decode cX4_set 47 = .ok (.ifCond .ne 15, 3) := by decide +kernel
theorem dX4_set_50 : decode cX4_set 50 = .ok (.aload_n 0, 1) := by decide +kernel
theorem dX4_set_51 : decode cX4_set 51 = .ok (.getfield 7, 3) := by decide +kernel
theorem dX4_set_54 : decode cX4_set 54 = .ok (.iconst 0, 1) := by decide +kernel
theorem dX4_set_55 : decode cX4_set 55 = .ok (.iaload, 1) := by decide +kernel
theorem dX4_set_56 : decode cX4_set 56 = .ok (.ifCond .eq 6, 3) := by decide +kernel
theorem dX4_set_59 : decode cX4_set 59 = .ok (.bipush (-5), 2) := by decide +kernel
theorem dX4_set_61 : decode cX4_set 61 = .ok (.ireturn, 1) := by decide +kernel
theorem dX4_set_62 : decode cX4_set 62 = .ok (.aload_n 0, 1) := by decide +kernel
theorem dX4_set_63 : decode cX4_set 63 = .ok (.invokevirtual 119, 3) := by decide +kernel
theorem dX4_set_66 : decode cX4_set 66 = .ok (.aload_n 0, 1) := by decide +kernel
theorem dX4_set_67 : decode cX4_set 67 = .ok (.getfield 7, 3) := by decide +kernel
theorem dX4_set_70 : decode cX4_set 70 = .ok (.iconst 1, 1) := by decide +kernel
theorem dX4_set_71 : decode cX4_set 71 = .ok (.iload_n 1, 1) := by decide +kernel
theorem dX4_set_72 : decode cX4_set 72 = .ok (.iadd, 1) := by decide +kernel
theorem dX4_set_73 : decode cX4_set 73 = .ok (.iaload, 1) := by decide +kernel
theorem dX4_set_74 : decode cX4_set 74 = .ok (.istore 4, 2) := by decide +kernel
theorem dX4_set_76 : decode cX4_set 76 = .ok (.aload_n 0, 1) := by decide +kernel
theorem dX4_set_77 : decode cX4_set 77 = .ok (.getfield 7, 3) := by decide +kernel
theorem dX4_set_80 : decode cX4_set 80 = .ok (.iconst 1, 1) := by decide +kernel
theorem dX4_set_81 : decode cX4_set 81 = .ok (.iload_n 1, 1) := by decide +kernel
theorem dX4_set_82 : decode cX4_set 82 = .ok (.iadd, 1) := by decide +kernel
theorem dX4_set_83 : decode cX4_set 83 = .ok (.iload_n 2, 1) := by decide +kernel
theorem dX4_set_84 : decode cX4_set 84 = .ok (.iastore, 1) := by decide +kernel
theorem dX4_set_85 : decode cX4_set 85 = .ok (.aload_n 0, 1) := by decide +kernel
theorem dX4_set_86 : decode cX4_set 86 = .ok (.getfield 7, 3) := by decide +kernel
theorem dX4_set_89 : decode cX4_set 89 = .ok (.invokestatic 103, 3) := by decide +kernel
theorem dX4_set_92 : decode cX4_set 92 = .ok (.iload 4, 2) := by decide +kernel
theorem dX4_set_94 : decode cX4_set 94 = .ok (.ireturn, 1) := by decide +kernel
theorem dX4_passOn_0 : decode cX4_passOn 0 = .ok (.aload_n 0, 1) := by decide +kernel
theorem dX4_passOn_1 : decode cX4_passOn 1 = .ok (.aload_n 1, 1) := by decide +kernel
theorem dX4_passOn_2 : decode cX4_passOn 2 = .ok (.iconst 0, 1) := by decide +kernel
theorem dX4_passOn_3 : decode cX4_passOn 3 = .ok (.iaload, 1) := by decide +kernel
theorem dX4_passOn_4 : decode cX4_passOn 4 = .ok (.invokevirtual 42, 3) := by decide +kernel
theorem dX4_passOn_7 : decode cX4_passOn 7 = .ok (.aload_n 1, 1) := by decide +kernel
theorem dX4_passOn_8 : decode cX4_passOn 8 = .ok (.iconst 1, 1) := by decide +kernel
theorem dX4_passOn_9 : decode cX4_passOn 9 = .ok (.iaload, 1) := by decide +kernel
theorem dX4_passOn_10 : decode cX4_passOn 10 = .ok (.isub, 1) := by decide +kernel
theorem dX4_passOn_11 : decode cX4_passOn 11 = .ok (.istore_n 3, 1) := by decide +kernel
theorem dX4_passOn_12 : decode cX4_passOn 12 = .ok (.aload_n 1, 1) := by decide +kernel
theorem dX4_passOn_13 : decode cX4_passOn 13 = .ok (.iconst 0, 1) := by decide +kernel
theorem dX4_passOn_14 : decode cX4_passOn 14 = .ok (.dup2, 1) := by decide +kernel
theorem dX4_passOn_15 : decode cX4_passOn 15 = .ok (.iaload, 1) := by decide +kernel
theorem dX4_passOn_16 : decode cX4_passOn 16 = .ok (.iload_n 2, 1) := by decide +kernel
theorem dX4_passOn_17 : decode cX4_passOn 17 = .ok (.iadd, 1) := by decide +kernel
theorem dX4_passOn_18 : decode cX4_passOn 18 = .ok (.iastore, 1) := by decide +kernel
theorem dX4_passOn_19 : decode cX4_passOn 19 = .ok (.iconst 0, 1) := by decide +kernel
theorem dX4_passOn_20 : decode cX4_passOn 20 = .ok (.istore 4, 2) := by decide +kernel
theorem dX4_passOn_22 : decode cX4_passOn 22 = .ok (.iload 4, 2) := by decide +kernel
theorem dX4_passOn_24 : decode cX4_passOn 24 = .ok (.bipush 120, 2) := by decide +kernel
theorem dX4_passOn_26 : decode cX4_passOn 26 = .ok (.if_icmp .ge 33, 3) := by decide +kernel
theorem dX4_passOn_29 : decode cX4_passOn 29 = .ok (.iload 4, 2) := by decide +kernel
theorem dX4_passOn_31 : decode cX4_passOn 31 = .ok (.iload_n 3, 1) := by decide +kernel
theorem dX4_passOn_32 : decode cX4_passOn 32 = .ok (.if_icmp .le 21, 3) := by decide +kernel
theorem dX4_passOn_35 : decode cX4_passOn 35 = .ok (.aload_n 0, 1) := by decide +kernel
theorem dX4_passOn_36 : decode cX4_passOn 36 = .ok (.aload_n 1, 1) := by decide +kernel
theorem dX4_passOn_37 : decode cX4_passOn 37 = .ok (.iload 4, 2) := by decide +kernel
theorem dX4_passOn_39 : decode cX4_passOn 39 = .ok (.invokevirtual 93, 3) := by decide +kernel
theorem dX4_passOn_42 : decode cX4_passOn 42 = .ok (.ifCond .eq 11, 3) := by decide +kernel
theorem dX4_passOn_45 : decode cX4_passOn 45 = .ok (.aload_n 1, 1) := by decide +kernel
theorem dX4_passOn_46 : decode cX4_passOn 46 = .ok (.iload 4, 2) := by decide +kernel
theorem dX4_passOn_48 : decode cX4_passOn 48 = .ok (.bipush (-6), 2) := by decide +kernel
theorem dX4_passOn_50 : decode cX4_passOn 50 = .ok (.invokestatic 86, 3) := by decide +kernel
theorem dX4_passOn_53 : decode cX4_passOn 53 = .ok (.iinc 4 1, 3) := by decide +kernel
theorem dX4_passOn_56 : decode cX4_passOn 56 = .ok (.goto (-34), 3) := by decide +kernel
theorem dX4_passOn_59 : decode cX4_passOn 59 = .ok (.aload_n 1, 1) := by decide +kernel
theorem dX4_passOn_60 : decode cX4_passOn 60 = .ok (.iconst 0, 1) := by decide +kernel
theorem dX4_passOn_61 : decode cX4_passOn 61 = .ok (.iaload, 1) := by decide +kernel
theorem dX4_passOn_62 : decode cX4_passOn 62 = .ok (.ireturn, 1) := by decide +kernel
theorem dX4_whyNotPass_0 : decode cX4_whyNotPass 0 = .ok (.iload_n 2, 1) := by decide +kernel
theorem dX4_whyNotPass_1 : decode cX4_whyNotPass 1 = .ok (.i2l, 1) := by decide +kernel
theorem dX4_whyNotPass_2 : decode cX4_whyNotPass 2 = .ok (.lconst 1, 1) := by decide +kernel
theorem dX4_whyNotPass_3 : decode cX4_whyNotPass 3 = .ok (.ldc2_w 122, 3) := by decide +kernel
theorem dX4_whyNotPass_6 : decode cX4_whyNotPass 6 = .ok (.invokestatic 34, 3) := by decide +kernel
theorem dX4_whyNotPass_9 : decode cX4_whyNotPass 9 = .ok (.ifCond .ne 8, 3) := by decide +kernel
theorem dX4_whyNotPass_12 : decode cX4_whyNotPass 12 = .ok (.bipush (-2), 2) := by decide +kernel
theorem dX4_whyNotPass_14 : decode cX4_whyNotPass 14 = .ok (.goto 20, 3) := by decide +kernel
theorem dX4_whyNotPass_17 : decode cX4_whyNotPass 17 = .ok (.aload_n 1, 1) := by decide +kernel
theorem dX4_whyNotPass_18 : decode cX4_whyNotPass 18 = .ok (.iconst 0, 1) := by decide +kernel
theorem dX4_whyNotPass_19 : decode cX4_whyNotPass 19 = .ok (.iaload, 1) := by decide +kernel
theorem dX4_whyNotPass_20 : decode cX4_whyNotPass 20 = .ok (.iload_n 2, 1) := by decide +kernel
theorem dX4_whyNotPass_21 : decode cX4_whyNotPass 21 = .ok (.iadd, 1) := by decide +kernel
theorem dX4_whyNotPass_22 : decode cX4_whyNotPass 22 = .ok (.sipush 3650, 3) := by decide +kernel
theorem dX4_whyNotPass_25 : decode cX4_whyNotPass 25 = .ok (.if_icmp .lt 8, 3) := by decide +kernel
theorem dX4_whyNotPass_28 : decode cX4_whyNotPass 28 = .ok (.bipush (-4), 2) := by decide +kernel
theorem dX4_whyNotPass_30 : decode cX4_whyNotPass 30 = .ok (.goto 4, 3) := by decide +kernel
theorem dX4_whyNotPass_33 : decode cX4_whyNotPass 33 = .ok (.iconst 0, 1) := by decide +kernel
theorem dX4_whyNotPass_34 : decode cX4_whyNotPass 34 = .ok (.ireturn, 1) := by decide +kernel
theorem dX4_pass_0 : decode cX4_pass 0 = .ok (.aload_n 0, 1) := by decide +kernel
theorem dX4_pass_1 : decode cX4_pass 1 = .ok (.aload_n 0, 1) := by decide +kernel
theorem dX4_pass_2 : decode cX4_pass 2 = .ok (.getfield 7, 3) := by decide +kernel
theorem dX4_pass_5 : decode cX4_pass 5 = .ok (.iload_n 1, 1) := by decide +kernel
theorem dX4_pass_6 : decode cX4_pass 6 = .ok (.invokevirtual 124, 3) := by decide +kernel
theorem dX4_pass_9 : decode cX4_pass 9 = .ok (.istore_n 2, 1) := by decide +kernel
theorem dX4_pass_10 : decode cX4_pass 10 = .ok (.iload_n 2, 1) := by decide +kernel
theorem dX4_pass_11 : decode cX4_pass 11 = .ok (.ifCond .eq 5, 3) := by decide +kernel
theorem dX4_pass_14 : decode cX4_pass 14 = .ok (.iload_n 2, 1) := by decide +kernel
theorem dX4_pass_15 : decode cX4_pass 15 = .ok (.ireturn, 1) := by decide +kernel
theorem dX4_pass_16 : decode cX4_pass 16 = .ok (.aload_n 0, 1) := by decide +kernel
theorem dX4_pass_17 : decode cX4_pass 17 = .ok (.invokevirtual 119, 3) := by decide +kernel
theorem dX4_pass_20 : decode cX4_pass 20 = .ok (.aload_n 0, 1) := by decide +kernel
theorem dX4_pass_21 : decode cX4_pass 21 = .ok (.aload_n 0, 1) := by decide +kernel
theorem dX4_pass_22 : decode cX4_pass 22 = .ok (.getfield 7, 3) := by decide +kernel
theorem dX4_pass_25 : decode cX4_pass 25 = .ok (.iload_n 1, 1) := by decide +kernel
theorem dX4_pass_26 : decode cX4_pass 26 = .ok (.invokevirtual 127, 3) := by decide +kernel
theorem dX4_pass_29 : decode cX4_pass 29 = .ok (.ireturn, 1) := by decide +kernel
theorem dX4_whyNotDays_0 : decode cX4_whyNotDays 0 = .ok (.iload_n 0, 1) := by decide +kernel
theorem dX4_whyNotDays_1 : decode cX4_whyNotDays 1 = .ok (.ifCond .eq 17, 3) := by decide +kernel
theorem dX4_whyNotDays_4 : decode cX4_whyNotDays 4 = .ok (.iload_n 1, 1) := by decide +kernel
theorem dX4_whyNotDays_5 : decode cX4_whyNotDays 5 = .ok (.invokestatic 130, 3) := by decide +kernel
theorem dX4_whyNotDays_8 : decode cX4_whyNotDays 8 = .ok (.ifCond .eq 10, 3) := by decide +kernel
theorem dX4_whyNotDays_11 : decode cX4_whyNotDays 11 = .ok (.iload_n 2, 1) := by decide +kernel
theorem dX4_whyNotDays_12 : decode cX4_whyNotDays 12 = .ok (.invokestatic 130, 3) := by decide +kernel
theorem dX4_whyNotDays_15 : decode cX4_whyNotDays 15 = .ok (.ifCond .ne 7, 3) := by decide +kernel
theorem dX4_whyNotDays_18 : decode cX4_whyNotDays 18 = .ok (.iconst (-1), 1) := by decide +kernel
theorem dX4_whyNotDays_19 : decode cX4_whyNotDays 19 = .ok (.goto 14, 3) := by decide +kernel
theorem dX4_whyNotDays_22 : decode cX4_whyNotDays 22 = .ok (.iload_n 2, 1) := by decide +kernel
theorem dX4_whyNotDays_23 : decode cX4_whyNotDays 23 = .ok (.iload_n 1, 1) := by decide +kernel
theorem dX4_whyNotDays_24 : decode cX4_whyNotDays 24 = .ok (.if_icmp .ge 8, 3) := by decide +kernel
theorem dX4_whyNotDays_27 : decode cX4_whyNotDays 27 = .ok (.bipush (-2), 2) := by decide +kernel
theorem dX4_whyNotDays_29 : decode cX4_whyNotDays 29 = .ok (.goto 4, 3) := by decide +kernel
theorem dX4_whyNotDays_32 : decode cX4_whyNotDays 32 = .ok (.iconst 0, 1) := by decide +kernel
theorem dX4_whyNotDays_33 : decode cX4_whyNotDays 33 = .ok (.ireturn, 1) := by decide +kernel
theorem dX4_whyNotMark_0 : decode cX4_whyNotMark 0 = .ok (.iload_n 2, 1) := by decide +kernel
theorem dX4_whyNotMark_1 : decode cX4_whyNotMark 1 = .ok (.invokestatic 134, 3) := by decide +kernel
theorem dX4_whyNotMark_4 : decode cX4_whyNotMark 4 = .ok (.iload_n 3, 1) := by decide +kernel
theorem dX4_whyNotMark_5 : decode cX4_whyNotMark 5 = .ok (.iload 4, 2) := by decide +kernel
theorem dX4_whyNotMark_7 : decode cX4_whyNotMark 7 = .ok (.invokestatic 137, 3) := by decide +kernel
theorem dX4_whyNotMark_10 : decode cX4_whyNotMark 10 = .ok (.istore 5, 2) := by decide +kernel
theorem dX4_whyNotMark_12 : decode cX4_whyNotMark 12 = .ok (.iload 5, 2) := by decide +kernel
theorem dX4_whyNotMark_14 : decode cX4_whyNotMark 14 = .ok (.ifCond .eq 8, 3) := by decide +kernel
theorem dX4_whyNotMark_17 : decode cX4_whyNotMark 17 = .ok (.iload 5, 2) := by decide +kernel
theorem dX4_whyNotMark_19 : decode cX4_whyNotMark 19 = .ok (.goto 17, 3) := by decide +kernel
theorem dX4_whyNotMark_22 : decode cX4_whyNotMark 22 = .ok (.iload 4, 2) := by decide +kernel
theorem dX4_whyNotMark_24 : decode cX4_whyNotMark 24 = .ok (.aload_n 1, 1) := by decide +kernel
theorem dX4_whyNotMark_25 : decode cX4_whyNotMark 25 = .ok (.iconst 0, 1) := by decide +kernel
theorem dX4_whyNotMark_26 : decode cX4_whyNotMark 26 = .ok (.iaload, 1) := by decide +kernel
theorem dX4_whyNotMark_27 : decode cX4_whyNotMark 27 = .ok (.if_icmp .le 8, 3) := by decide +kernel
theorem dX4_whyNotMark_30 : decode cX4_whyNotMark 30 = .ok (.bipush (-5), 2) := by decide +kernel
theorem dX4_whyNotMark_32 : decode cX4_whyNotMark 32 = .ok (.goto 4, 3) := by decide +kernel
theorem dX4_whyNotMark_35 : decode cX4_whyNotMark 35 = .ok (.iconst 0, 1) := by decide +kernel
theorem dX4_whyNotMark_36 : decode cX4_whyNotMark 36 = .ok (.ireturn, 1) := by decide +kernel
theorem dX4_markOn_0 : decode cX4_markOn 0 = .ok (.iconst 0, 1) := by decide +kernel
theorem dX4_markOn_1 : decode cX4_markOn 1 = .ok (.istore 6, 2) := by decide +kernel
theorem dX4_markOn_3 : decode cX4_markOn 3 = .ok (.aload_n 0, 1) := by decide +kernel
theorem dX4_markOn_4 : decode cX4_markOn 4 = .ok (.iload_n 3, 1) := by decide +kernel
theorem dX4_markOn_5 : decode cX4_markOn 5 = .ok (.invokevirtual 42, 3) := by decide +kernel
theorem dX4_markOn_8 : decode cX4_markOn 8 = .ok (.istore 7, 2) := by decide +kernel
theorem dX4_markOn_10 : decode cX4_markOn 10 = .ok (.iload 7, 2) := by decide +kernel
theorem dX4_markOn_12 : decode cX4_markOn 12 = .ok (.aload_n 0, 1) := by decide +kernel
theorem dX4_markOn_13 : decode cX4_markOn 13 = .ok (.iload 4, 2) := by decide +kernel
theorem dX4_markOn_15 : decode cX4_markOn 15 = .ok (.invokevirtual 42, 3) := by decide +kernel
theorem dX4_markOn_18 : decode cX4_markOn 18 = .ok (.if_icmp .gt 81, 3) := by decide +kernel
theorem dX4_markOn_21 : decode cX4_markOn 21 = .ok (.aload_n 0, 1) := by decide +kernel
theorem dX4_markOn_22 : decode cX4_markOn 22 = .ok (.iload 7, 2) := by decide +kernel
theorem dX4_markOn_24 : decode cX4_markOn 24 = .ok (.iload_n 3, 1) := by decide +kernel
theorem dX4_markOn_25 : decode cX4_markOn 25 = .ok (.iload 4, 2) := by decide +kernel
theorem dX4_markOn_27 : decode cX4_markOn 27 = .ok (.invokevirtual 49, 3) := by decide +kernel
theorem dX4_markOn_30 : decode cX4_markOn 30 = .ok (.istore 8, 2) := by decide +kernel
theorem dX4_markOn_32 : decode cX4_markOn 32 = .ok (.iload 5, 2) := by decide +kernel
theorem dX4_markOn_34 : decode cX4_markOn 34 = .ok (.ifCond .eq 19, 3) := by decide +kernel
theorem dX4_markOn_37 : decode cX4_markOn 37 = .ok (.iload 8, 2) := by decide +kernel
theorem dX4_markOn_39 : decode cX4_markOn 39 = .ok (.aload_n 1, 1) := by decide +kernel
theorem dX4_markOn_40 : decode cX4_markOn 40 = .ok (.iload 7, 2) := by decide +kernel
theorem dX4_markOn_42 : decode cX4_markOn 42 = .ok (.iload_n 2, 1) := by decide +kernel
theorem dX4_markOn_43 : decode cX4_markOn 43 = .ok (.invokestatic 53, 3) := by decide +kernel
theorem dX4_markOn_46 : decode cX4_markOn 46 = .ok (.iaload, 1) := by decide +kernel
theorem dX4_markOn_47 : decode cX4_markOn 47 = .ok (.iconst (-1), 1) := by decide +kernel
theorem dX4_markOn_48 : decode cX4_markOn 48 = .ok (.ixor, 1) := by decide +kernel
theorem dX4_markOn_49 : decode cX4_markOn 49 = .ok (.iand, 1) := by decide +kernel
theorem dX4_markOn_50 : decode cX4_markOn 50 = .ok (.goto 14, 3) := by decide +kernel
theorem dX4_markOn_53 : decode cX4_markOn 53 = .ok (.iload 8, 2) := by decide +kernel
theorem dX4_markOn_55 : decode cX4_markOn 55 = .ok (.aload_n 1, 1) := by decide +kernel
theorem dX4_markOn_56 : decode cX4_markOn 56 = .ok (.iload 7, 2) := by decide +kernel
theorem dX4_markOn_58 : decode cX4_markOn 58 = .ok (.iload_n 2, 1) := by decide +kernel
theorem dX4_markOn_59 : decode cX4_markOn 59 = .ok (.invokestatic 53, 3) := by decide +kernel
theorem dX4_markOn_62 : decode cX4_markOn 62 = .ok (.iaload, 1) := by decide +kernel
theorem dX4_markOn_63 : decode cX4_markOn 63 = .ok (.iand, 1) := by decide +kernel
theorem dX4_markOn_64 : decode cX4_markOn 64 = .ok (.istore 9, 2) := by decide +kernel
theorem dX4_markOn_66 : decode cX4_markOn 66 = .ok (.iload 6, 2) := by decide +kernel
theorem dX4_markOn_68 : decode cX4_markOn 68 = .ok (.iload 9, 2) := by decide +kernel
theorem dX4_markOn_70 : decode cX4_markOn 70 = .ok (.invokestatic 57, 3) := by decide +kernel
theorem dX4_markOn_73 : decode cX4_markOn 73 = .ok (.iadd, 1) := by decide +kernel
theorem dX4_markOn_74 : decode cX4_markOn 74 = .ok (.istore 6, 2) := by decide +kernel
theorem dX4_markOn_76 : decode cX4_markOn 76 = .ok (.iload 9, 2) := by decide +kernel
theorem dX4_markOn_78 : decode cX4_markOn 78 = .ok (.ifCond .eq 15, 3) := by decide +kernel
theorem dX4_markOn_81 : decode cX4_markOn 81 = .ok (.aload_n 0, 1) := by decide +kernel
theorem dX4_markOn_82 : decode cX4_markOn 82 = .ok (.aload_n 1, 1) := by decide +kernel
theorem dX4_markOn_83 : decode cX4_markOn 83 = .ok (.iload_n 2, 1) := by decide +kernel
theorem dX4_markOn_84 : decode cX4_markOn 84 = .ok (.iload 7, 2) := by decide +kernel
theorem dX4_markOn_86 : decode cX4_markOn 86 = .ok (.iload 8, 2) := by decide +kernel
theorem dX4_markOn_88 : decode cX4_markOn 88 = .ok (.iload 5, 2) := by decide +kernel
theorem dX4_markOn_90 : decode cX4_markOn 90 = .ok (.invokevirtual 141, 3) := by decide +kernel
theorem dX4_markOn_93 : decode cX4_markOn 93 = .ok (.iinc 7 1, 3) := by decide +kernel
theorem dX4_markOn_96 : decode cX4_markOn 96 = .ok (.goto (-86), 3) := by decide +kernel
theorem dX4_markOn_99 : decode cX4_markOn 99 = .ok (.iload 6, 2) := by decide +kernel
theorem dX4_markOn_101 : decode cX4_markOn 101 = .ok (.ireturn, 1) := by decide +kernel
theorem dX4_mark_0 : decode cX4_mark 0 = .ok (.aload_n 0, 1) := by decide +kernel
theorem dX4_mark_1 : decode cX4_mark 1 = .ok (.aload_n 0, 1) := by decide +kernel
theorem dX4_mark_2 : decode cX4_mark 2 = .ok (.getfield 7, 3) := by decide +kernel
theorem dX4_mark_5 : decode cX4_mark 5 = .ok (.iload_n 1, 1) := by decide +kernel
theorem dX4_mark_6 : decode cX4_mark 6 = .ok (.iload_n 2, 1) := by decide +kernel
theorem dX4_mark_7 : decode cX4_mark 7 = .ok (.iload_n 3, 1) := by decide +kernel
theorem dX4_mark_8 : decode cX4_mark 8 = .ok (.invokevirtual 145, 3) := by decide +kernel
theorem dX4_mark_11 : decode cX4_mark 11 = .ok (.istore 4, 2) := by decide +kernel
theorem dX4_mark_13 : decode cX4_mark 13 = .ok (.iload 4, 2) := by decide +kernel
theorem dX4_mark_15 : decode cX4_mark 15 = .ok (.ifCond .eq 6, 3) := by decide +kernel
theorem dX4_mark_18 : decode cX4_mark 18 = .ok (.iload 4, 2) := by decide +kernel
theorem dX4_mark_20 : decode cX4_mark 20 = .ok (.ireturn, 1) := by decide +kernel
theorem dX4_mark_21 : decode cX4_mark 21 = .ok (.aload_n 0, 1) := by decide +kernel
theorem dX4_mark_22 : decode cX4_mark 22 = .ok (.invokevirtual 119, 3) := by decide +kernel
theorem dX4_mark_25 : decode cX4_mark 25 = .ok (.aload_n 0, 1) := by decide +kernel
theorem dX4_mark_26 : decode cX4_mark 26 = .ok (.aload_n 0, 1) := by decide +kernel
theorem dX4_mark_27 : decode cX4_mark 27 = .ok (.getfield 7, 3) := by decide +kernel
theorem dX4_mark_30 : decode cX4_mark 30 = .ok (.iload_n 1, 1) := by decide +kernel
theorem dX4_mark_31 : decode cX4_mark 31 = .ok (.iload_n 2, 1) := by decide +kernel
theorem dX4_mark_32 : decode cX4_mark 32 = .ok (.iload_n 3, 1) := by decide +kernel
theorem dX4_mark_33 : decode cX4_mark 33 = .ok (.iconst 1, 1) := by decide +kernel
theorem dX4_mark_34 : decode cX4_mark 34 = .ok (.invokevirtual 148, 3) := by decide +kernel
theorem dX4_mark_37 : decode cX4_mark 37 = .ok (.ireturn, 1) := by decide +kernel
theorem dX4_clear_0 : decode cX4_clear 0 = .ok (.aload_n 0, 1) := by decide +kernel
theorem dX4_clear_1 : decode cX4_clear 1 = .ok (.aload_n 0, 1) := by decide +kernel
theorem dX4_clear_2 : decode cX4_clear 2 = .ok (.getfield 7, 3) := by decide +kernel
theorem dX4_clear_5 : decode cX4_clear 5 = .ok (.iload_n 1, 1) := by decide +kernel
theorem dX4_clear_6 : decode cX4_clear 6 = .ok (.iload_n 2, 1) := by decide +kernel
theorem dX4_clear_7 : decode cX4_clear 7 = .ok (.iload_n 3, 1) := by decide +kernel
theorem dX4_clear_8 : decode cX4_clear 8 = .ok (.invokevirtual 145, 3) := by decide +kernel
theorem dX4_clear_11 : decode cX4_clear 11 = .ok (.istore 4, 2) := by decide +kernel
theorem dX4_clear_13 : decode cX4_clear 13 = .ok (.iload 4, 2) := by decide +kernel
theorem dX4_clear_15 : decode cX4_clear 15 = .ok (.ifCond .eq 6, 3) := by decide +kernel
theorem dX4_clear_18 : decode cX4_clear 18 = .ok (.iload 4, 2) := by decide +kernel
theorem dX4_clear_20 : decode cX4_clear 20 = .ok (.ireturn, 1) := by decide +kernel
theorem dX4_clear_21 : decode cX4_clear 21 = .ok (.aload_n 0, 1) := by decide +kernel
theorem dX4_clear_22 : decode cX4_clear 22 = .ok (.invokevirtual 119, 3) := by decide +kernel
theorem dX4_clear_25 : decode cX4_clear 25 = .ok (.aload_n 0, 1) := by decide +kernel
theorem dX4_clear_26 : decode cX4_clear 26 = .ok (.aload_n 0, 1) := by decide +kernel
theorem dX4_clear_27 : decode cX4_clear 27 = .ok (.getfield 7, 3) := by decide +kernel
theorem dX4_clear_30 : decode cX4_clear 30 = .ok (.iload_n 1, 1) := by decide +kernel
theorem dX4_clear_31 : decode cX4_clear 31 = .ok (.iload_n 2, 1) := by decide +kernel
theorem dX4_clear_32 : decode cX4_clear 32 = .ok (.iload_n 3, 1) := by decide +kernel
theorem dX4_clear_33 : decode cX4_clear 33 = .ok (.iconst 0, 1) := by decide +kernel
theorem dX4_clear_34 : decode cX4_clear 34 = .ok (.invokevirtual 148, 3) := by decide +kernel
theorem dX4_clear_37 : decode cX4_clear 37 = .ok (.ireturn, 1) := by decide +kernel
theorem dX4_marks_0 : decode cX4_marks 0 = .ok (.iload_n 1, 1) := by decide +kernel
theorem dX4_marks_1 : decode cX4_marks 1 = .ok (.invokestatic 134, 3) := by decide +kernel
theorem dX4_marks_4 : decode cX4_marks 4 = .ok (.iload_n 2, 1) := by decide +kernel
theorem dX4_marks_5 : decode cX4_marks 5 = .ok (.iload_n 3, 1) := by decide +kernel
theorem dX4_marks_6 : decode cX4_marks 6 = .ok (.invokestatic 137, 3) := by decide +kernel
theorem dX4_marks_9 : decode cX4_marks 9 = .ok (.istore 4, 2) := by decide +kernel
theorem dX4_marks_11 : decode cX4_marks 11 = .ok (.iload 4, 2) := by decide +kernel
theorem dX4_marks_13 : decode cX4_marks 13 = .ok (.ifCond .eq 6, 3) := by decide +kernel
theorem dX4_marks_16 : decode cX4_marks 16 = .ok (.iload 4, 2) := by decide +kernel
theorem dX4_marks_18 : decode cX4_marks 18 = .ok (.ireturn, 1) := by decide +kernel
theorem dX4_marks_19 : decode cX4_marks 19 = .ok (.iconst 0, 1) := by decide +kernel
theorem dX4_marks_20 : decode cX4_marks 20 = .ok (.istore 5, 2) := by decide +kernel
theorem dX4_marks_22 : decode cX4_marks 22 = .ok (.aload_n 0, 1) := by decide +kernel
theorem dX4_marks_23 : decode cX4_marks 23 = .ok (.iload_n 2, 1) := by decide +kernel
theorem dX4_marks_24 : decode cX4_marks 24 = .ok (.invokevirtual 42, 3) := by decide +kernel
theorem dX4_marks_27 : decode cX4_marks 27 = .ok (.istore 6, 2) := by decide +kernel
theorem dX4_marks_29 : decode cX4_marks 29 = .ok (.iload 6, 2) := by decide +kernel
theorem dX4_marks_31 : decode cX4_marks 31 = .ok (.aload_n 0, 1) := by decide +kernel
theorem dX4_marks_32 : decode cX4_marks 32 = .ok (.iload_n 3, 1) := by decide +kernel
theorem dX4_marks_33 : decode cX4_marks 33 = .ok (.invokevirtual 42, 3) := by decide +kernel
theorem dX4_marks_36 : decode cX4_marks 36 = .ok (.if_icmp .gt 62, 3) := by decide +kernel
theorem dX4_marks_39 : decode cX4_marks 39 = .ok (.aload_n 0, 1) := by decide +kernel
theorem dX4_marks_40 : decode cX4_marks 40 = .ok (.iload 6, 2) := by decide +kernel
theorem dX4_marks_42 : decode cX4_marks 42 = .ok (.iload_n 2, 1) := by decide +kernel
theorem dX4_marks_43 : decode cX4_marks 43 = .ok (.iload_n 3, 1) := by decide +kernel
theorem dX4_marks_44 : decode cX4_marks 44 = .ok (.invokevirtual 49, 3) := by decide +kernel
theorem dX4_marks_47 : decode cX4_marks 47 = .ok (.istore 7, 2) := by decide +kernel
theorem dX4_marks_49 : decode cX4_marks 49 = .ok (.iload 7, 2) := by decide +kernel
theorem dX4_marks_51 : decode cX4_marks 51 = .ok (.aload_n 0, 1) := by decide +kernel
theorem dX4_marks_52 : decode cX4_marks 52 = .ok (.iload 6, 2) := by decide +kernel
theorem dX4_marks_54 : decode cX4_marks 54 = .ok (.invokevirtual 152, 3) := by decide +kernel
theorem dX4_marks_57 : decode cX4_marks 57 = .ok (.if_icmp .eq 13, 3) := by decide +kernel
theorem dX4_marks_60 : decode cX4_marks 60 = .ok (.aload_n 0, 1) := by decide +kernel
theorem dX4_marks_61 : decode cX4_marks 61 = .ok (.aload_n 0, 1) := by decide +kernel
theorem dX4_marks_62 : decode cX4_marks 62 = .ok (.getfield 7, 3) := by decide +kernel
theorem dX4_marks_65 : decode cX4_marks 65 = .ok (.iload 6, 2) := by decide +kernel
theorem dX4_marks_67 : decode cX4_marks 67 = .ok (.invokevirtual 155, 3) := by decide +kernel
theorem dX4_marks_70 : decode cX4_marks 70 = .ok (.iload 5, 2) := by decide +kernel
theorem dX4_marks_72 : decode cX4_marks 72 = .ok (.aload_n 0, 1) := by decide +kernel
theorem dX4_marks_73 : decode cX4_marks 73 = .ok (.getfield 7, 3) := by decide +kernel
theorem dX4_marks_76 : decode cX4_marks 76 = .ok (.iload 6, 2) := by decide +kernel
theorem dX4_marks_78 : decode cX4_marks 78 = .ok (.iload_n 1, 1) := by decide +kernel
theorem dX4_marks_79 : decode cX4_marks 79 = .ok (.invokestatic 53, 3) := by decide +kernel
theorem dX4_marks_82 : decode cX4_marks 82 = .ok (.iaload, 1) := by decide +kernel
theorem dX4_marks_83 : decode cX4_marks 83 = .ok (.iload 7, 2) := by decide +kernel
theorem dX4_marks_85 : decode cX4_marks 85 = .ok (.iand, 1) := by decide +kernel
theorem dX4_marks_86 : decode cX4_marks 86 = .ok (.invokestatic 57, 3) := by decide +kernel
theorem dX4_marks_89 : decode cX4_marks 89 = .ok (.iadd, 1) := by decide +kernel
theorem dX4_marks_90 : decode cX4_marks 90 = .ok (.istore 5, 2) := by decide +kernel
theorem dX4_marks_92 : decode cX4_marks 92 = .ok (.iinc 6 1, 3) := by decide +kernel
theorem dX4_marks_95 : decode cX4_marks 95 = .ok (.goto (-66), 3) := by decide +kernel
theorem dX4_marks_98 : decode cX4_marks 98 = .ok (.iload 5, 2) := by decide +kernel
theorem dX4_marks_100 : decode cX4_marks 100 = .ok (.ireturn, 1) := by decide +kernel
theorem dX4_isMarked_0 : decode cX4_isMarked 0 = .ok (.iload_n 1, 1) := by decide +kernel
theorem dX4_isMarked_1 : decode cX4_isMarked 1 = .ok (.invokestatic 134, 3) := by decide +kernel
theorem dX4_isMarked_4 : decode cX4_isMarked 4 = .ok (.ifCond .eq 10, 3) := by decide +kernel
theorem dX4_isMarked_7 : decode cX4_isMarked 7 = .ok (.iload_n 2, 1) := by decide +kernel
theorem dX4_isMarked_8 : decode cX4_isMarked 8 = .ok (.invokestatic 130, 3) := by decide +kernel
theorem dX4_isMarked_11 : decode cX4_isMarked 11 = .ok (.ifCond .ne 5, 3) := by decide +kernel
theorem dX4_isMarked_14 : decode cX4_isMarked 14 = .ok (.iconst (-1), 1) := by decide +kernel
theorem dX4_isMarked_15 : decode cX4_isMarked 15 = .ok (.ireturn, 1) := by decide +kernel
theorem dX4_isMarked_16 : decode cX4_isMarked 16 = .ok (.aload_n 0, 1) := by decide +kernel
theorem dX4_isMarked_17 : decode cX4_isMarked 17 = .ok (.iload_n 2, 1) := by decide +kernel
theorem dX4_isMarked_18 : decode cX4_isMarked 18 = .ok (.invokevirtual 42, 3) := by decide +kernel
theorem dX4_isMarked_21 : decode cX4_isMarked 21 = .ok (.istore_n 3, 1) := by decide +kernel
theorem dX4_isMarked_22 : decode cX4_isMarked 22 = .ok (.aload_n 0, 1) := by decide +kernel
theorem dX4_isMarked_23 : decode cX4_isMarked 23 = .ok (.aload_n 0, 1) := by decide +kernel
theorem dX4_isMarked_24 : decode cX4_isMarked 24 = .ok (.getfield 7, 3) := by decide +kernel
theorem dX4_isMarked_27 : decode cX4_isMarked 27 = .ok (.iload_n 3, 1) := by decide +kernel
theorem dX4_isMarked_28 : decode cX4_isMarked 28 = .ok (.invokevirtual 155, 3) := by decide +kernel
theorem dX4_isMarked_31 : decode cX4_isMarked 31 = .ok (.aload_n 0, 1) := by decide +kernel
theorem dX4_isMarked_32 : decode cX4_isMarked 32 = .ok (.getfield 7, 3) := by decide +kernel
theorem dX4_isMarked_35 : decode cX4_isMarked 35 = .ok (.iload_n 3, 1) := by decide +kernel
theorem dX4_isMarked_36 : decode cX4_isMarked 36 = .ok (.iload_n 1, 1) := by decide +kernel
theorem dX4_isMarked_37 : decode cX4_isMarked 37 = .ok (.invokestatic 53, 3) := by decide +kernel
theorem dX4_isMarked_40 : decode cX4_isMarked 40 = .ok (.iaload, 1) := by decide +kernel
theorem dX4_isMarked_41 : decode cX4_isMarked 41 = .ok (.iload_n 2, 1) := by decide +kernel
theorem dX4_isMarked_42 : decode cX4_isMarked 42 = .ok (.aload_n 0, 1) := by decide +kernel
theorem dX4_isMarked_43 : decode cX4_isMarked 43 = .ok (.getfield 29, 3) := by decide +kernel
theorem dX4_isMarked_46 : decode cX4_isMarked 46 = .ok (.iload_n 3, 1) := by decide +kernel
theorem dX4_isMarked_47 : decode cX4_isMarked 47 = .ok (.iaload, 1) := by decide +kernel
theorem dX4_isMarked_48 : decode cX4_isMarked 48 = .ok (.isub, 1) := by decide +kernel
theorem dX4_isMarked_49 : decode cX4_isMarked 49 = .ok (.ishr, 1) := by decide +kernel
theorem dX4_isMarked_50 : decode cX4_isMarked 50 = .ok (.iconst 1, 1) := by decide +kernel
theorem dX4_isMarked_51 : decode cX4_isMarked 51 = .ok (.iand, 1) := by decide +kernel
theorem dX4_isMarked_52 : decode cX4_isMarked 52 = .ok (.ireturn, 1) := by decide +kernel
theorem dX4_both_0 : decode cX4_both 0 = .ok (.iload_n 1, 1) := by decide +kernel
theorem dX4_both_1 : decode cX4_both 1 = .ok (.invokestatic 134, 3) := by decide +kernel
theorem dX4_both_4 : decode cX4_both 4 = .ok (.ifCond .eq 14, 3) := by decide +kernel
theorem dX4_both_7 : decode cX4_both 7 = .ok (.iload_n 2, 1) := by decide +kernel
theorem dX4_both_8 : decode cX4_both 8 = .ok (.invokestatic 134, 3) := by decide +kernel
theorem dX4_both_11 : decode cX4_both 11 = .ok (.ifCond .eq 7, 3) := by decide +kernel
theorem dX4_both_14 : decode cX4_both 14 = .ok (.iconst 1, 1) := by decide +kernel
theorem dX4_both_15 : decode cX4_both 15 = .ok (.goto 4, 3) := by decide +kernel
theorem dX4_both_18 : decode cX4_both 18 = .ok (.iconst 0, 1) := by decide +kernel
theorem dX4_both_19 : decode cX4_both 19 = .ok (.iload_n 3, 1) := by decide +kernel
theorem dX4_both_20 : decode cX4_both 20 = .ok (.iload 4, 2) := by decide +kernel
theorem dX4_both_22 : decode cX4_both 22 = .ok (.invokestatic 137, 3) := by decide +kernel
theorem dX4_both_25 : decode cX4_both 25 = .ok (.istore 5, 2) := by decide +kernel
theorem dX4_both_27 : decode cX4_both 27 = .ok (.iload 5, 2) := by decide +kernel
theorem dX4_both_29 : decode cX4_both 29 = .ok (.ifCond .eq 6, 3) := by decide +kernel
theorem dX4_both_32 : decode cX4_both 32 = .ok (.iload 5, 2) := by decide +kernel
theorem dX4_both_34 : decode cX4_both 34 = .ok (.ireturn, 1) := by decide +kernel
theorem dX4_both_35 : decode cX4_both 35 = .ok (.iconst 0, 1) := by decide +kernel
theorem dX4_both_36 : decode cX4_both 36 = .ok (.istore 6, 2) := by decide +kernel
theorem dX4_both_38 : decode cX4_both 38 = .ok (.aload_n 0, 1) := by decide +kernel
theorem dX4_both_39 : decode cX4_both 39 = .ok (.iload_n 3, 1) := by decide +kernel
theorem dX4_both_40 : decode cX4_both 40 = .ok (.invokevirtual 42, 3) := by decide +kernel
theorem dX4_both_43 : decode cX4_both 43 = .ok (.istore 7, 2) := by decide +kernel
theorem dX4_both_45 : decode cX4_both 45 = .ok (.iload 7, 2) := by decide +kernel
theorem dX4_both_47 : decode cX4_both 47 = .ok (.aload_n 0, 1) := by decide +kernel
theorem dX4_both_48 : decode cX4_both 48 = .ok (.iload 4, 2) := by decide +kernel
theorem dX4_both_50 : decode cX4_both 50 = .ok (.invokevirtual 42, 3) := by decide +kernel
theorem dX4_both_53 : decode cX4_both 53 = .ok (.if_icmp .gt 60, 3) := by decide +kernel
theorem dX4_both_56 : decode cX4_both 56 = .ok (.aload_n 0, 1) := by decide +kernel
theorem dX4_both_57 : decode cX4_both 57 = .ok (.aload_n 0, 1) := by decide +kernel
theorem dX4_both_58 : decode cX4_both 58 = .ok (.getfield 7, 3) := by decide +kernel
theorem dX4_both_61 : decode cX4_both 61 = .ok (.iload 7, 2) := by decide +kernel
theorem dX4_both_63 : decode cX4_both 63 = .ok (.invokevirtual 155, 3) := by decide +kernel
theorem dX4_both_66 : decode cX4_both 66 = .ok (.iload 6, 2) := by decide +kernel
theorem dX4_both_68 : decode cX4_both 68 = .ok (.aload_n 0, 1) := by decide +kernel
theorem dX4_both_69 : decode cX4_both 69 = .ok (.getfield 7, 3) := by decide +kernel
theorem dX4_both_72 : decode cX4_both 72 = .ok (.iload 7, 2) := by decide +kernel
theorem dX4_both_74 : decode cX4_both 74 = .ok (.iload_n 1, 1) := by decide +kernel
theorem dX4_both_75 : decode cX4_both 75 = .ok (.invokestatic 53, 3) := by decide +kernel
theorem dX4_both_78 : decode cX4_both 78 = .ok (.iaload, 1) := by decide +kernel
theorem dX4_both_79 : decode cX4_both 79 = .ok (.aload_n 0, 1) := by decide +kernel
theorem dX4_both_80 : decode cX4_both 80 = .ok (.getfield 7, 3) := by decide +kernel
theorem dX4_both_83 : decode cX4_both 83 = .ok (.iload 7, 2) := by decide +kernel
theorem dX4_both_85 : decode cX4_both 85 = .ok (.iload_n 2, 1) := by decide +kernel
theorem dX4_both_86 : decode cX4_both 86 = .ok (.invokestatic 53, 3) := by decide +kernel
theorem dX4_both_89 : decode cX4_both 89 = .ok (.iaload, 1) := by decide +kernel
theorem dX4_both_90 : decode cX4_both 90 = .ok (.iand, 1) := by decide +kernel
theorem dX4_both_91 : decode cX4_both 91 = .ok (.aload_n 0, 1) := by decide +kernel
theorem dX4_both_92 : decode cX4_both 92 = .ok (.iload 7, 2) := by decide +kernel
theorem dX4_both_94 : decode cX4_both 94 = .ok (.iload_n 3, 1) := by decide +kernel
theorem dX4_both_95 : decode cX4_both 95 = .ok (.iload 4, 2) := by decide +kernel
theorem dX4_both_97 : decode cX4_both 97 = .ok (.invokevirtual 49, 3) := by decide +kernel
theorem dX4_both_100 : decode cX4_both 100 = .ok (.iand, 1) := by decide +kernel
theorem dX4_both_101 : decode cX4_both 101 = .ok (.invokestatic 57, 3) := by decide +kernel
theorem dX4_both_104 : decode cX4_both 104 = .ok (.iadd, 1) := by decide +kernel
theorem dX4_both_105 : decode cX4_both 105 = .ok (.istore 6, 2) := by decide +kernel
theorem dX4_both_107 : decode cX4_both 107 = .ok (.iinc 7 1, 3) := by decide +kernel
theorem dX4_both_110 : decode cX4_both 110 = .ok (.goto (-65), 3) := by decide +kernel
theorem dX4_both_113 : decode cX4_both 113 = .ok (.iload 6, 2) := by decide +kernel
theorem dX4_both_115 : decode cX4_both 115 = .ok (.ireturn, 1) := by decide +kernel
theorem dX4_crowded_0 : decode cX4_crowded 0 = .ok (.iload_n 2, 1) := by decide +kernel
theorem dX4_crowded_1 : decode cX4_crowded 1 = .ok (.invokestatic 130, 3) := by decide +kernel
theorem dX4_crowded_4 : decode cX4_crowded 4 = .ok (.ifCond .eq 10, 3) := by decide +kernel
theorem dX4_crowded_7 : decode cX4_crowded 7 = .ok (.iload_n 3, 1) := by decide +kernel
theorem dX4_crowded_8 : decode cX4_crowded 8 = .ok (.invokestatic 130, 3) := by decide +kernel
theorem dX4_crowded_11 : decode cX4_crowded 11 = .ok (.ifCond .ne 5, 3) := by decide +kernel
theorem dX4_crowded_14 : decode cX4_crowded 14 = .ok (.iconst (-1), 1) := by decide +kernel
theorem dX4_crowded_15 : decode cX4_crowded 15 = .ok (.ireturn, 1) := by decide +kernel
theorem dX4_crowded_16 : decode cX4_crowded 16 = .ok (.iload_n 1, 1) := by decide +kernel
theorem dX4_crowded_17 : decode cX4_crowded 17 = .ok (.i2l, 1) := by decide +kernel
theorem dX4_crowded_18 : decode cX4_crowded 18 = .ok (.lconst 1, 1) := by decide +kernel
theorem dX4_crowded_19 : decode cX4_crowded 19 = .ok (.ldc2_w 158, 3) := by decide +kernel
theorem dX4_crowded_22 : decode cX4_crowded 22 = .ok (.invokestatic 34, 3) := by decide +kernel
theorem dX4_crowded_25 : decode cX4_crowded 25 = .ok (.ifCond .eq 8, 3) := by decide +kernel
theorem dX4_crowded_28 : decode cX4_crowded 28 = .ok (.iload_n 3, 1) := by decide +kernel
theorem dX4_crowded_29 : decode cX4_crowded 29 = .ok (.iload_n 2, 1) := by decide +kernel
theorem dX4_crowded_30 : decode cX4_crowded 30 = .ok (.if_icmp .ge 6, 3) := by decide +kernel
theorem dX4_crowded_33 : decode cX4_crowded 33 = .ok (.bipush (-2), 2) := by decide +kernel
theorem dX4_crowded_35 : decode cX4_crowded 35 = .ok (.ireturn, 1) := by decide +kernel
theorem dX4_crowded_36 : decode cX4_crowded 36 = .ok (.iconst 0, 1) := by decide +kernel
theorem dX4_crowded_37 : decode cX4_crowded 37 = .ok (.istore 4, 2) := by decide +kernel
theorem dX4_crowded_39 : decode cX4_crowded 39 = .ok (.aload_n 0, 1) := by decide +kernel
theorem dX4_crowded_40 : decode cX4_crowded 40 = .ok (.iload_n 2, 1) := by decide +kernel
theorem dX4_crowded_41 : decode cX4_crowded 41 = .ok (.invokevirtual 42, 3) := by decide +kernel
theorem dX4_crowded_44 : decode cX4_crowded 44 = .ok (.istore 5, 2) := by decide +kernel
theorem dX4_crowded_46 : decode cX4_crowded 46 = .ok (.iload 5, 2) := by decide +kernel
theorem dX4_crowded_48 : decode cX4_crowded 48 = .ok (.aload_n 0, 1) := by decide +kernel
theorem dX4_crowded_49 : decode cX4_crowded 49 = .ok (.iload_n 3, 1) := by decide +kernel
theorem dX4_crowded_50 : decode cX4_crowded 50 = .ok (.invokevirtual 42, 3) := by decide +kernel
theorem dX4_crowded_53 : decode cX4_crowded 53 = .ok (.if_icmp .gt 117, 3) := by decide +kernel
theorem dX4_crowded_56 : decode cX4_crowded 56 = .ok (.aload_n 0, 1) := by decide +kernel
theorem dX4_crowded_57 : decode cX4_crowded 57 = .ok (.aload_n 0, 1) := by decide +kernel
theorem dX4_crowded_58 : decode cX4_crowded 58 = .ok (.getfield 7, 3) := by decide +kernel
theorem dX4_crowded_61 : decode cX4_crowded 61 = .ok (.iload 5, 2) := by decide +kernel
theorem dX4_crowded_63 : decode cX4_crowded 63 = .ok (.invokevirtual 155, 3) := by decide +kernel
theorem dX4_crowded_66 : decode cX4_crowded 66 = .ok (.aload_n 0, 1) := by decide +kernel
theorem dX4_crowded_67 : decode cX4_crowded 67 = .ok (.iload 5, 2) := by decide +kernel
theorem dX4_crowded_69 : decode cX4_crowded 69 = .ok (.iload_n 2, 1) := by decide +kernel
theorem dX4_crowded_70 : decode cX4_crowded 70 = .ok (.iload_n 3, 1) := by decide +kernel
theorem dX4_crowded_71 : decode cX4_crowded 71 = .ok (.invokevirtual 49, 3) := by decide +kernel
theorem dX4_crowded_74 : decode cX4_crowded 74 = .ok (.istore 6, 2) := by decide +kernel
theorem dX4_crowded_76 : decode cX4_crowded 76 = .ok (.iconst 0, 1) := by decide +kernel
theorem dX4_crowded_77 : decode cX4_crowded 77 = .ok (.istore 7, 2) := by decide +kernel
theorem dX4_crowded_79 : decode cX4_crowded 79 = .ok (.iload 7, 2) := by decide +kernel
theorem dX4_crowded_81 : decode cX4_crowded 81 = .ok (.aload_n 0, 1) := by decide +kernel
theorem dX4_crowded_82 : decode cX4_crowded 82 = .ok (.iload 5, 2) := by decide +kernel
theorem dX4_crowded_84 : decode cX4_crowded 84 = .ok (.invokevirtual 46, 3) := by decide +kernel
theorem dX4_crowded_87 : decode cX4_crowded 87 = .ok (.if_icmp .ge 77, 3) := by decide +kernel
theorem dX4_crowded_90 : decode cX4_crowded 90 = .ok (.iconst 0, 1) := by decide +kernel
theorem dX4_crowded_91 : decode cX4_crowded 91 = .ok (.istore 8, 2) := by decide +kernel
theorem dX4_crowded_93 : decode cX4_crowded 93 = .ok (.iconst 0, 1) := by decide +kernel
theorem dX4_crowded_94 : decode cX4_crowded 94 = .ok (.istore 9, 2) := by decide +kernel
theorem dX4_crowded_96 : decode cX4_crowded 96 = .ok (.iload 9, 2) := by decide +kernel
theorem dX4_crowded_98 : decode cX4_crowded 98 = .ok (.bipush 16, 2) := by decide +kernel
theorem dX4_crowded_100 : decode cX4_crowded 100 = .ok (.if_icmp .ge 31, 3) := by decide +kernel
theorem dX4_crowded_103 : decode cX4_crowded 103 = .ok (.iload 8, 2) := by decide +kernel
theorem dX4_crowded_105 : decode cX4_crowded 105 = .ok (.aload_n 0, 1) := by decide +kernel
theorem dX4_crowded_106 : decode cX4_crowded 106 = .ok (.getfield 7, 3) := by decide +kernel
theorem dX4_crowded_109 : decode cX4_crowded 109 = .ok (.iload 5, 2) := by decide +kernel
theorem dX4_crowded_111 : decode cX4_crowded 111 = .ok (.iload 9, 2) := by decide +kernel
theorem dX4_crowded_113 : decode cX4_crowded 113 = .ok (.invokestatic 53, 3) := by decide +kernel
theorem dX4_crowded_116 : decode cX4_crowded 116 = .ok (.iaload, 1) := by decide +kernel
theorem dX4_crowded_117 : decode cX4_crowded 117 = .ok (.iload 7, 2) := by decide +kernel
theorem dX4_crowded_119 : decode cX4_crowded 119 = .ok (.ishr, 1) := by decide +kernel
theorem dX4_crowded_120 : decode cX4_crowded 120 = .ok (.iconst 1, 1) := by decide +kernel
theorem dX4_crowded_121 : decode cX4_crowded 121 = .ok (.iand, 1) := by decide +kernel
theorem dX4_crowded_122 : decode cX4_crowded 122 = .ok (.iadd, 1) := by decide +kernel
theorem dX4_crowded_123 : decode cX4_crowded 123 = .ok (.istore 8, 2) := by decide +kernel
theorem dX4_crowded_125 : decode cX4_crowded 125 = .ok (.iinc 9 1, 3) := by decide +kernel
theorem dX4_crowded_128 : decode cX4_crowded 128 = .ok (.goto (-32), 3) := by decide +kernel
theorem dX4_crowded_131 : decode cX4_crowded 131 = .ok (.iload 4, 2) := by decide +kernel
theorem dX4_crowded_133 : decode cX4_crowded 133 = .ok (.iload 6, 2) := by decide +kernel
theorem dX4_crowded_135 : decode cX4_crowded 135 = .ok (.iload 7, 2) := by decide +kernel
theorem dX4_crowded_137 : decode cX4_crowded 137 = .ok (.ishr, 1) := by decide +kernel
theorem dX4_crowded_138 : decode cX4_crowded 138 = .ok (.iconst 1, 1) := by decide +kernel
theorem dX4_crowded_139 : decode cX4_crowded 139 = .ok (.iand, 1) := by decide +kernel
theorem dX4_crowded_140 : decode cX4_crowded 140 = .ok (.iconst 1, 1) := by decide +kernel
theorem dX4_crowded_141 : decode cX4_crowded 141 = .ok (.if_icmp .ne 13, 3) := by decide +kernel
theorem dX4_crowded_144 : decode cX4_crowded 144 = .ok (.iload 8, 2) := by decide +kernel
theorem dX4_crowded_146 : decode cX4_crowded 146 = .ok (.iload_n 1, 1) := by decide +kernel
theorem dX4_crowded_147 : decode cX4_crowded 147 = .ok (.if_icmp .lt 7, 3) := by decide +kernel
theorem dX4_crowded_150 : decode cX4_crowded 150 = .ok (.iconst 1, 1) := by decide +kernel
theorem dX4_crowded_151 : decode cX4_crowded 151 = .ok (.goto 4, 3) := by decide +kernel
theorem dX4_crowded_154 : decode cX4_crowded 154 = .ok (.iconst 0, 1) := by decide +kernel
theorem dX4_crowded_155 : decode cX4_crowded 155 = .ok (.iadd, 1) := by decide +kernel
theorem dX4_crowded_156 : decode cX4_crowded 156 = .ok (.istore 4, 2) := by decide +kernel
theorem dX4_crowded_158 : decode cX4_crowded 158 = .ok (.iinc 7 1, 3) := by decide +kernel
theorem dX4_crowded_161 : decode cX4_crowded 161 = .ok (.goto (-82), 3) := by decide +kernel
theorem dX4_crowded_164 : decode cX4_crowded 164 = .ok (.iinc 5 1, 3) := by decide +kernel
theorem dX4_crowded_167 : decode cX4_crowded 167 = .ok (.goto (-121), 3) := by decide +kernel
theorem dX4_crowded_170 : decode cX4_crowded 170 = .ok (.iload 4, 2) := by decide +kernel
theorem dX4_crowded_172 : decode cX4_crowded 172 = .ok (.ireturn, 1) := by decide +kernel
theorem dX4_longest_0 : decode cX4_longest 0 = .ok (.iload_n 1, 1) := by decide +kernel
theorem dX4_longest_1 : decode cX4_longest 1 = .ok (.invokestatic 134, 3) := by decide +kernel
theorem dX4_longest_4 : decode cX4_longest 4 = .ok (.ifCond .eq 17, 3) := by decide +kernel
theorem dX4_longest_7 : decode cX4_longest 7 = .ok (.iload_n 2, 1) := by decide +kernel
theorem dX4_longest_8 : decode cX4_longest 8 = .ok (.invokestatic 130, 3) := by decide +kernel
theorem dX4_longest_11 : decode cX4_longest 11 = .ok (.ifCond .eq 10, 3) := by decide +kernel
theorem dX4_longest_14 : decode cX4_longest 14 = .ok (.iload_n 3, 1) := by decide +kernel
theorem dX4_longest_15 : decode cX4_longest 15 = .ok (.invokestatic 130, 3) := by decide +kernel
theorem dX4_longest_18 : decode cX4_longest 18 = .ok (.ifCond .ne 5, 3) := by decide +kernel
theorem dX4_longest_21 : decode cX4_longest 21 = .ok (.iconst (-1), 1) := by decide +kernel
theorem dX4_longest_22 : decode cX4_longest 22 = .ok (.ireturn, 1) := by decide +kernel
theorem dX4_longest_23 : decode cX4_longest 23 = .ok (.iload 4, 2) := by decide +kernel
theorem dX4_longest_25 : decode cX4_longest 25 = .ok (.i2l, 1) := by decide +kernel
theorem dX4_longest_26 : decode cX4_longest 26 = .ok (.lconst 0, 1) := by decide +kernel
theorem dX4_longest_27 : decode cX4_longest 27 = .ok (.lconst 1, 1) := by decide +kernel
theorem dX4_longest_28 : decode cX4_longest 28 = .ok (.invokestatic 34, 3) := by decide +kernel
theorem dX4_longest_31 : decode cX4_longest 31 = .ok (.ifCond .eq 8, 3) := by decide +kernel
theorem dX4_longest_34 : decode cX4_longest 34 = .ok (.iload_n 3, 1) := by decide +kernel
theorem dX4_longest_35 : decode cX4_longest 35 = .ok (.iload_n 2, 1) := by decide +kernel
theorem dX4_longest_36 : decode cX4_longest 36 = .ok (.if_icmp .ge 6, 3) := by decide +kernel
theorem dX4_longest_39 : decode cX4_longest 39 = .ok (.bipush (-2), 2) := by decide +kernel
theorem dX4_longest_41 : decode cX4_longest 41 = .ok (.ireturn, 1) := by decide +kernel
theorem dX4_longest_42 : decode cX4_longest 42 = .ok (.iconst 0, 1) := by decide +kernel
theorem dX4_longest_43 : decode cX4_longest 43 = .ok (.istore 5, 2) := by decide +kernel
theorem dX4_longest_45 : decode cX4_longest 45 = .ok (.bipush (-6), 2) := by decide +kernel
theorem dX4_longest_47 : decode cX4_longest 47 = .ok (.istore 6, 2) := by decide +kernel
theorem dX4_longest_49 : decode cX4_longest 49 = .ok (.iconst 0, 1) := by decide +kernel
theorem dX4_longest_50 : decode cX4_longest 50 = .ok (.istore 7, 2) := by decide +kernel
theorem dX4_longest_52 : decode cX4_longest 52 = .ok (.aload_n 0, 1) := by decide +kernel
theorem dX4_longest_53 : decode cX4_longest 53 = .ok (.iload_n 2, 1) := by decide +kernel
theorem dX4_longest_54 : decode cX4_longest 54 = .ok (.invokevirtual 42, 3) := by decide +kernel
theorem dX4_longest_57 : decode cX4_longest 57 = .ok (.istore 8, 2) := by decide +kernel
theorem dX4_longest_59 : decode cX4_longest 59 = .ok (.iload 8, 2) := by decide +kernel
theorem dX4_longest_61 : decode cX4_longest 61 = .ok (.aload_n 0, 1) := by decide +kernel
theorem dX4_longest_62 : decode cX4_longest 62 = .ok (.iload_n 3, 1) := by decide +kernel
theorem dX4_longest_63 : decode cX4_longest 63 = .ok (.invokevirtual 42, 3) := by decide +kernel
theorem dX4_longest_66 : decode cX4_longest 66 = .ok (.if_icmp .gt 141, 3) := by decide +kernel
theorem dX4_longest_69 : decode cX4_longest 69 = .ok (.aload_n 0, 1) := by decide +kernel
theorem dX4_longest_70 : decode cX4_longest 70 = .ok (.getfield 7, 3) := by decide +kernel
theorem dX4_longest_73 : decode cX4_longest 73 = .ok (.iload 8, 2) := by decide +kernel
theorem dX4_longest_75 : decode cX4_longest 75 = .ok (.iload_n 1, 1) := by decide +kernel
theorem dX4_longest_76 : decode cX4_longest 76 = .ok (.invokestatic 53, 3) := by decide +kernel
theorem dX4_longest_79 : decode cX4_longest 79 = .ok (.iaload, 1) := by decide +kernel
theorem dX4_longest_80 : decode cX4_longest 80 = .ok (.ifCond .eq 13, 3) := by decide +kernel
theorem dX4_longest_83 : decode cX4_longest 83 = .ok (.aload_n 0, 1) := by decide +kernel
theorem dX4_longest_84 : decode cX4_longest 84 = .ok (.aload_n 0, 1) := by decide +kernel
theorem dX4_longest_85 : decode cX4_longest 85 = .ok (.getfield 7, 3) := by decide +kernel
theorem dX4_longest_88 : decode cX4_longest 88 = .ok (.iload 8, 2) := by decide +kernel
theorem dX4_longest_90 : decode cX4_longest 90 = .ok (.invokevirtual 155, 3) := by decide +kernel
theorem dX4_longest_93 : decode cX4_longest 93 = .ok (.aload_n 0, 1) := by decide +kernel
theorem dX4_longest_94 : decode cX4_longest 94 = .ok (.getfield 7, 3) := by decide +kernel
theorem dX4_longest_97 : decode cX4_longest 97 = .ok (.iload 8, 2) := by decide +kernel
theorem dX4_longest_99 : decode cX4_longest 99 = .ok (.iload_n 1, 1) := by decide +kernel
theorem dX4_longest_100 : decode cX4_longest 100 = .ok (.invokestatic 53, 3) := by decide +kernel
theorem dX4_longest_103 : decode cX4_longest 103 = .ok (.iaload, 1) := by decide +kernel
theorem dX4_longest_104 : decode cX4_longest 104 = .ok (.aload_n 0, 1) := by decide +kernel
theorem dX4_longest_105 : decode cX4_longest 105 = .ok (.iload 8, 2) := by decide +kernel
theorem dX4_longest_107 : decode cX4_longest 107 = .ok (.iload_n 2, 1) := by decide +kernel
theorem dX4_longest_108 : decode cX4_longest 108 = .ok (.iload_n 3, 1) := by decide +kernel
theorem dX4_longest_109 : decode cX4_longest 109 = .ok (.invokevirtual 49, 3) := by decide +kernel
theorem dX4_longest_112 : decode cX4_longest 112 = .ok (.iand, 1) := by decide +kernel
theorem dX4_longest_113 : decode cX4_longest 113 = .ok (.istore 9, 2) := by decide +kernel
theorem dX4_longest_115 : decode cX4_longest 115 = .ok (.iconst 0, 1) := by decide +kernel
theorem dX4_longest_116 : decode cX4_longest 116 = .ok (.istore 10, 2) := by decide +kernel
theorem dX4_longest_118 : decode cX4_longest 118 = .ok (.iload 10, 2) := by decide +kernel
theorem dX4_longest_120 : decode cX4_longest 120 = .ok (.aload_n 0, 1) := by decide +kernel
theorem dX4_longest_121 : decode cX4_longest 121 = .ok (.iload 8, 2) := by decide +kernel
theorem dX4_longest_123 : decode cX4_longest 123 = .ok (.invokevirtual 46, 3) := by decide +kernel
theorem dX4_longest_126 : decode cX4_longest 126 = .ok (.if_icmp .ge 75, 3) := by decide +kernel
theorem dX4_longest_129 : decode cX4_longest 129 = .ok (.iload 9, 2) := by decide +kernel
theorem dX4_longest_131 : decode cX4_longest 131 = .ok (.iload 10, 2) := by decide +kernel
theorem dX4_longest_133 : decode cX4_longest 133 = .ok (.ishr, 1) := by decide +kernel
theorem dX4_longest_134 : decode cX4_longest 134 = .ok (.iconst 1, 1) := by decide +kernel
theorem dX4_longest_135 : decode cX4_longest 135 = .ok (.iand, 1) := by decide +kernel
theorem dX4_longest_136 : decode cX4_longest 136 = .ok (.iconst 1, 1) := by decide +kernel
theorem dX4_longest_137 : decode cX4_longest 137 = .ok (.if_icmp .ne 10, 3) := by decide +kernel
theorem dX4_longest_140 : decode cX4_longest 140 = .ok (.iload 7, 2) := by decide +kernel
theorem dX4_longest_142 : decode cX4_longest 142 = .ok (.iconst 1, 1) := by decide +kernel
theorem dX4_longest_143 : decode cX4_longest 143 = .ok (.iadd, 1) := by decide +kernel
theorem dX4_longest_144 : decode cX4_longest 144 = .ok (.goto 4, 3) := by decide +kernel
theorem dX4_longest_147 : decode cX4_longest 147 = .ok (.iconst 0, 1) := by decide +kernel
theorem dX4_longest_148 : decode cX4_longest 148 = .ok (.istore 7, 2) := by decide +kernel
theorem dX4_longest_150 : decode cX4_longest 150 = .ok (.iload 7, 2) := by decide +kernel
theorem dX4_longest_152 : decode cX4_longest 152 = .ok (.iload 5, 2) := by decide +kernel
theorem dX4_longest_154 : decode cX4_longest 154 = .ok (.if_icmp .le 21, 3) := by decide +kernel
theorem dX4_longest_157 : decode cX4_longest 157 = .ok (.aload_n 0, 1) := by decide +kernel
theorem dX4_longest_158 : decode cX4_longest 158 = .ok (.getfield 29, 3) := by decide +kernel
theorem dX4_longest_161 : decode cX4_longest 161 = .ok (.iload 8, 2) := by decide +kernel
theorem dX4_longest_163 : decode cX4_longest 163 = .ok (.iaload, 1) := by decide +kernel
theorem dX4_longest_164 : decode cX4_longest 164 = .ok (.iload 10, 2) := by decide +kernel
theorem dX4_longest_166 : decode cX4_longest 166 = .ok (.iadd, 1) := by decide +kernel
theorem dX4_longest_167 : decode cX4_longest 167 = .ok (.iload 7, 2) := by decide +kernel
theorem dX4_longest_169 : decode cX4_longest 169 = .ok (.isub, 1) := by decide +kernel
theorem dX4_longest_170 : decode cX4_longest 170 = .ok (.iconst 1, 1) := by decide +kernel
theorem dX4_longest_171 : decode cX4_longest 171 = .ok (.iadd, 1) := by decide +kernel
theorem dX4_longest_172 : decode cX4_longest 172 = .ok (.goto 5, 3) := by decide +kernel
theorem dX4_longest_175 : decode cX4_longest 175 = .ok (.iload 6, 2) := by decide +kernel
theorem dX4_longest_177 : decode cX4_longest 177 = .ok (.istore 6, 2) := by decide +kernel
theorem dX4_longest_179 : decode cX4_longest 179 = .ok (.iload 7, 2) := by decide +kernel
theorem dX4_longest_181 : decode cX4_longest 181 = .ok (.iload 5, 2) := by decide +kernel
theorem dX4_longest_183 : decode cX4_longest 183 = .ok (.if_icmp .le 8, 3) := by decide +kernel
theorem dX4_longest_186 : decode cX4_longest 186 = .ok (.iload 7, 2) := by decide +kernel
theorem dX4_longest_188 : decode cX4_longest 188 = .ok (.goto 5, 3) := by decide +kernel
theorem dX4_longest_191 : decode cX4_longest 191 = .ok (.iload 5, 2) := by decide +kernel
theorem dX4_longest_193 : decode cX4_longest 193 = .ok (.istore 5, 2) := by decide +kernel
theorem dX4_longest_195 : decode cX4_longest 195 = .ok (.iinc 10 1, 3) := by decide +kernel
theorem dX4_longest_198 : decode cX4_longest 198 = .ok (.goto (-80), 3) := by decide +kernel
theorem dX4_longest_201 : decode cX4_longest 201 = .ok (.iinc 8 1, 3) := by decide +kernel
theorem dX4_longest_204 : decode cX4_longest 204 = .ok (.goto (-145), 3) := by decide +kernel
theorem dX4_longest_207 : decode cX4_longest 207 = .ok (.iload 4, 2) := by decide +kernel
theorem dX4_longest_209 : decode cX4_longest 209 = .ok (.ifCond .ne 8, 3) := by decide +kernel
theorem dX4_longest_212 : decode cX4_longest 212 = .ok (.iload 5, 2) := by decide +kernel
theorem dX4_longest_214 : decode cX4_longest 214 = .ok (.goto 5, 3) := by decide +kernel
theorem dX4_longest_217 : decode cX4_longest 217 = .ok (.iload 6, 2) := by decide +kernel
theorem dX4_longest_219 : decode cX4_longest 219 = .ok (.ireturn, 1) := by decide +kernel
theorem dX4_nextMark_0 : decode cX4_nextMark 0 = .ok (.iload_n 1, 1) := by decide +kernel
theorem dX4_nextMark_1 : decode cX4_nextMark 1 = .ok (.invokestatic 134, 3) := by decide +kernel
theorem dX4_nextMark_4 : decode cX4_nextMark 4 = .ok (.ifCond .eq 10, 3) := by decide +kernel
theorem dX4_nextMark_7 : decode cX4_nextMark 7 = .ok (.iload_n 2, 1) := by decide +kernel
theorem dX4_nextMark_8 : decode cX4_nextMark 8 = .ok (.invokestatic 130, 3) := by decide +kernel
theorem dX4_nextMark_11 : decode cX4_nextMark 11 = .ok (.ifCond .ne 5, 3) := by decide +kernel
theorem dX4_nextMark_14 : decode cX4_nextMark 14 = .ok (.iconst (-1), 1) := by decide +kernel
theorem dX4_nextMark_15 : decode cX4_nextMark 15 = .ok (.ireturn, 1) := by decide +kernel
theorem dX4_nextMark_16 : decode cX4_nextMark 16 = .ok (.aload_n 0, 1) := by decide +kernel
theorem dX4_nextMark_17 : decode cX4_nextMark 17 = .ok (.iload_n 2, 1) := by decide +kernel
theorem dX4_nextMark_18 : decode cX4_nextMark 18 = .ok (.invokevirtual 42, 3) := by decide +kernel
theorem dX4_nextMark_21 : decode cX4_nextMark 21 = .ok (.istore_n 3, 1) := by decide +kernel
theorem dX4_nextMark_22 : decode cX4_nextMark 22 = .ok (.iload_n 3, 1) := by decide +kernel
theorem dX4_nextMark_23 : decode cX4_nextMark 23 = .ok (.bipush 120, 2) := by decide +kernel
theorem dX4_nextMark_25 : decode cX4_nextMark 25 = .ok (.if_icmp .ge 93, 3) := by decide +kernel
theorem dX4_nextMark_28 : decode cX4_nextMark 28 = .ok (.aload_n 0, 1) := by decide +kernel
theorem dX4_nextMark_29 : decode cX4_nextMark 29 = .ok (.getfield 7, 3) := by decide +kernel
theorem dX4_nextMark_32 : decode cX4_nextMark 32 = .ok (.iload_n 3, 1) := by decide +kernel
theorem dX4_nextMark_33 : decode cX4_nextMark 33 = .ok (.iload_n 1, 1) := by decide +kernel
theorem dX4_nextMark_34 : decode cX4_nextMark 34 = .ok (.invokestatic 53, 3) := by decide +kernel
theorem dX4_nextMark_37 : decode cX4_nextMark 37 = .ok (.iaload, 1) := by decide +kernel
theorem dX4_nextMark_38 : decode cX4_nextMark 38 = .ok (.ifCond .eq 74, 3) := by decide +kernel
theorem dX4_nextMark_41 : decode cX4_nextMark 41 = .ok (.aload_n 0, 1) := by decide +kernel
theorem dX4_nextMark_42 : decode cX4_nextMark 42 = .ok (.aload_n 0, 1) := by decide +kernel
theorem dX4_nextMark_43 : decode cX4_nextMark 43 = .ok (.getfield 7, 3) := by decide +kernel
theorem dX4_nextMark_46 : decode cX4_nextMark 46 = .ok (.iload_n 3, 1) := by decide +kernel
theorem dX4_nextMark_47 : decode cX4_nextMark 47 = .ok (.invokevirtual 155, 3) := by decide +kernel
theorem dX4_nextMark_50 : decode cX4_nextMark 50 = .ok (.aload_n 0, 1) := by decide +kernel
theorem dX4_nextMark_51 : decode cX4_nextMark 51 = .ok (.getfield 7, 3) := by decide +kernel
theorem dX4_nextMark_54 : decode cX4_nextMark 54 = .ok (.iload_n 3, 1) := by decide +kernel
theorem dX4_nextMark_55 : decode cX4_nextMark 55 = .ok (.iload_n 1, 1) := by decide +kernel
theorem dX4_nextMark_56 : decode cX4_nextMark 56 = .ok (.invokestatic 53, 3) := by decide +kernel
theorem dX4_nextMark_59 : decode cX4_nextMark 59 = .ok (.iaload, 1) := by decide +kernel
theorem dX4_nextMark_60 : decode cX4_nextMark 60 = .ok (.aload_n 0, 1) := by decide +kernel
theorem dX4_nextMark_61 : decode cX4_nextMark 61 = .ok (.iload_n 3, 1) := by decide +kernel
theorem dX4_nextMark_62 : decode cX4_nextMark 62 = .ok (.iload_n 2, 1) := by decide +kernel
theorem dX4_nextMark_63 : decode cX4_nextMark 63 = .ok (.sipush 3649, 3) := by decide +kernel
theorem dX4_nextMark_66 : decode cX4_nextMark 66 = .ok (.invokevirtual 49, 3) := by decide +kernel
theorem dX4_nextMark_69 : decode cX4_nextMark 69 = .ok (.iand, 1) := by decide +kernel
theorem dX4_nextMark_70 : decode cX4_nextMark 70 = .ok (.istore 4, 2) := by decide +kernel
theorem dX4_nextMark_72 : decode cX4_nextMark 72 = .ok (.iconst 0, 1) := by decide +kernel
theorem dX4_nextMark_73 : decode cX4_nextMark 73 = .ok (.istore 5, 2) := by decide +kernel
theorem dX4_nextMark_75 : decode cX4_nextMark 75 = .ok (.iload 5, 2) := by decide +kernel
theorem dX4_nextMark_77 : decode cX4_nextMark 77 = .ok (.aload_n 0, 1) := by decide +kernel
theorem dX4_nextMark_78 : decode cX4_nextMark 78 = .ok (.iload_n 3, 1) := by decide +kernel
theorem dX4_nextMark_79 : decode cX4_nextMark 79 = .ok (.invokevirtual 46, 3) := by decide +kernel
theorem dX4_nextMark_82 : decode cX4_nextMark 82 = .ok (.if_icmp .ge 30, 3) := by decide +kernel
theorem dX4_nextMark_85 : decode cX4_nextMark 85 = .ok (.iload 4, 2) := by decide +kernel
theorem dX4_nextMark_87 : decode cX4_nextMark 87 = .ok (.iload 5, 2) := by decide +kernel
theorem dX4_nextMark_89 : decode cX4_nextMark 89 = .ok (.ishr, 1) := by decide +kernel
theorem dX4_nextMark_90 : decode cX4_nextMark 90 = .ok (.iconst 1, 1) := by decide +kernel
theorem dX4_nextMark_91 : decode cX4_nextMark 91 = .ok (.iand, 1) := by decide +kernel
theorem dX4_nextMark_92 : decode cX4_nextMark 92 = .ok (.iconst 1, 1) := by decide +kernel
theorem dX4_nextMark_93 : decode cX4_nextMark 93 = .ok (.if_icmp .ne 13, 3) := by decide +kernel
theorem dX4_nextMark_96 : decode cX4_nextMark 96 = .ok (.aload_n 0, 1) := by decide +kernel
theorem dX4_nextMark_97 : decode cX4_nextMark 97 = .ok (.getfield 29, 3) := by decide +kernel
theorem dX4_nextMark_100 : decode cX4_nextMark 100 = .ok (.iload_n 3, 1) := by decide +kernel
theorem dX4_nextMark_101 : decode cX4_nextMark 101 = .ok (.iaload, 1) := by decide +kernel
theorem dX4_nextMark_102 : decode cX4_nextMark 102 = .ok (.iload 5, 2) := by decide +kernel
theorem dX4_nextMark_104 : decode cX4_nextMark 104 = .ok (.iadd, 1) := by decide +kernel
theorem dX4_nextMark_105 : decode cX4_nextMark 105 = .ok (.ireturn, 1) := by decide +kernel
theorem dX4_nextMark_106 : decode cX4_nextMark 106 = .ok (.iinc 5 1, 3) := by decide +kernel
theorem dX4_nextMark_109 : decode cX4_nextMark 109 = .ok (.goto (-34), 3) := by decide +kernel
theorem dX4_nextMark_112 : decode cX4_nextMark 112 = .ok (.iinc 3 1, 3) := by decide +kernel
theorem dX4_nextMark_115 : decode cX4_nextMark 115 = .ok (.goto (-93), 3) := by decide +kernel
theorem dX4_nextMark_118 : decode cX4_nextMark 118 = .ok (.bipush (-6), 2) := by decide +kernel
theorem dX4_nextMark_120 : decode cX4_nextMark 120 = .ok (.ireturn, 1) := by decide +kernel
theorem dX4_subjectsIn_0 : decode cX4_subjectsIn 0 = .ok (.iconst 0, 1) := by decide +kernel
theorem dX4_subjectsIn_1 : decode cX4_subjectsIn 1 = .ok (.istore_n 2, 1) := by decide +kernel
theorem dX4_subjectsIn_2 : decode cX4_subjectsIn 2 = .ok (.iconst 0, 1) := by decide +kernel
theorem dX4_subjectsIn_3 : decode cX4_subjectsIn 3 = .ok (.istore_n 3, 1) := by decide +kernel
theorem dX4_subjectsIn_4 : decode cX4_subjectsIn 4 = .ok (.iload_n 3, 1) := by decide +kernel
theorem dX4_subjectsIn_5 : decode cX4_subjectsIn 5 = .ok (.bipush 16, 2) := by decide +kernel
theorem dX4_subjectsIn_7 : decode cX4_subjectsIn 7 = .ok (.if_icmp .ge 29, 3) := by decide +kernel
theorem dX4_subjectsIn_10 : decode cX4_subjectsIn 10 = .ok (.iload_n 2, 1) := by decide +kernel
theorem dX4_subjectsIn_11 : decode cX4_subjectsIn 11 = .ok (.aload_n 0, 1) := by decide +kernel
theorem dX4_subjectsIn_12 : decode cX4_subjectsIn 12 = .ok (.iload_n 1, 1) := by decide +kernel
theorem dX4_subjectsIn_13 : decode cX4_subjectsIn 13 = .ok (.iload_n 3, 1) := by decide +kernel
theorem dX4_subjectsIn_14 : decode cX4_subjectsIn 14 = .ok (.invokestatic 53, 3) := by decide +kernel
theorem dX4_subjectsIn_17 : decode cX4_subjectsIn 17 = .ok (.iaload, 1) := by decide +kernel
theorem dX4_subjectsIn_18 : decode cX4_subjectsIn 18 = .ok (.ifCond .eq 9, 3) := by decide +kernel
theorem dX4_subjectsIn_21 : decode cX4_subjectsIn 21 = .ok (.iconst 1, 1) := by decide +kernel
theorem dX4_subjectsIn_22 : decode cX4_subjectsIn 22 = .ok (.iload_n 3, 1) := by decide +kernel
theorem dX4_subjectsIn_23 : decode cX4_subjectsIn 23 = .ok (.ishl, 1) := by decide +kernel
theorem dX4_subjectsIn_24 : decode cX4_subjectsIn 24 = .ok (.goto 4, 3) := by decide +kernel
theorem dX4_subjectsIn_27 : decode cX4_subjectsIn 27 = .ok (.iconst 0, 1) := by decide +kernel
theorem dX4_subjectsIn_28 : decode cX4_subjectsIn 28 = .ok (.ior, 1) := by decide +kernel
theorem dX4_subjectsIn_29 : decode cX4_subjectsIn 29 = .ok (.istore_n 2, 1) := by decide +kernel
theorem dX4_subjectsIn_30 : decode cX4_subjectsIn 30 = .ok (.iinc 3 1, 3) := by decide +kernel
theorem dX4_subjectsIn_33 : decode cX4_subjectsIn 33 = .ok (.goto (-29), 3) := by decide +kernel
theorem dX4_subjectsIn_36 : decode cX4_subjectsIn 36 = .ok (.iload_n 2, 1) := by decide +kernel
theorem dX4_subjectsIn_37 : decode cX4_subjectsIn 37 = .ok (.ireturn, 1) := by decide +kernel
theorem dX4_ofMonth_0 : decode cX4_ofMonth 0 = .ok (.iload_n 1, 1) := by decide +kernel
theorem dX4_ofMonth_1 : decode cX4_ofMonth 1 = .ok (.invokestatic 160, 3) := by decide +kernel
theorem dX4_ofMonth_4 : decode cX4_ofMonth 4 = .ok (.ifCond .ne 5, 3) := by decide +kernel
theorem dX4_ofMonth_7 : decode cX4_ofMonth 7 = .ok (.iconst (-1), 1) := by decide +kernel
theorem dX4_ofMonth_8 : decode cX4_ofMonth 8 = .ok (.ireturn, 1) := by decide +kernel
theorem dX4_ofMonth_9 : decode cX4_ofMonth 9 = .ok (.iload_n 2, 1) := by decide +kernel
theorem dX4_ofMonth_10 : decode cX4_ofMonth 10 = .ok (.tableswitch 197 0 9 #[54, 61, 67, 85, 104, 132, 141, 170, 179, 188], 54) := by decide +kernel
theorem dX4_ofMonth_64 : decode cX4_ofMonth 64 = .ok (.aload_n 0, 1) := by decide +kernel
theorem dX4_ofMonth_65 : decode cX4_ofMonth 65 = .ok (.getfield 29, 3) := by decide +kernel
theorem dX4_ofMonth_68 : decode cX4_ofMonth 68 = .ok (.iload_n 1, 1) := by decide +kernel
theorem dX4_ofMonth_69 : decode cX4_ofMonth 69 = .ok (.iaload, 1) := by decide +kernel
theorem dX4_ofMonth_70 : decode cX4_ofMonth 70 = .ok (.ireturn, 1) := by decide +kernel
theorem dX4_ofMonth_71 : decode cX4_ofMonth 71 = .ok (.aload_n 0, 1) := by decide +kernel
theorem dX4_ofMonth_72 : decode cX4_ofMonth 72 = .ok (.iload_n 1, 1) := by decide +kernel
theorem dX4_ofMonth_73 : decode cX4_ofMonth 73 = .ok (.invokevirtual 46, 3) := by decide +kernel
theorem dX4_ofMonth_76 : decode cX4_ofMonth 76 = .ok (.ireturn, 1) := by decide +kernel
theorem dX4_ofMonth_77 : decode cX4_ofMonth 77 = .ok (.aload_n 0, 1) := by decide +kernel
theorem dX4_ofMonth_78 : decode cX4_ofMonth 78 = .ok (.aload_n 0, 1) := by decide +kernel
theorem dX4_ofMonth_79 : decode cX4_ofMonth 79 = .ok (.getfield 7, 3) := by decide +kernel
theorem dX4_ofMonth_82 : decode cX4_ofMonth 82 = .ok (.iload_n 1, 1) := by decide +kernel
theorem dX4_ofMonth_83 : decode cX4_ofMonth 83 = .ok (.invokevirtual 93, 3) := by decide +kernel
theorem dX4_ofMonth_86 : decode cX4_ofMonth 86 = .ok (.ifCond .eq 7, 3) := by decide +kernel
theorem dX4_ofMonth_89 : decode cX4_ofMonth 89 = .ok (.iconst 1, 1) := by decide +kernel
theorem dX4_ofMonth_90 : decode cX4_ofMonth 90 = .ok (.goto 4, 3) := by decide +kernel
theorem dX4_ofMonth_93 : decode cX4_ofMonth 93 = .ok (.iconst 0, 1) := by decide +kernel
theorem dX4_ofMonth_94 : decode cX4_ofMonth 94 = .ok (.ireturn, 1) := by decide +kernel
theorem dX4_ofMonth_95 : decode cX4_ofMonth 95 = .ok (.aload_n 0, 1) := by decide +kernel
theorem dX4_ofMonth_96 : decode cX4_ofMonth 96 = .ok (.getfield 7, 3) := by decide +kernel
theorem dX4_ofMonth_99 : decode cX4_ofMonth 99 = .ok (.iload_n 1, 1) := by decide +kernel
theorem dX4_ofMonth_100 : decode cX4_ofMonth 100 = .ok (.invokestatic 90, 3) := by decide +kernel
theorem dX4_ofMonth_103 : decode cX4_ofMonth 103 = .ok (.bipush (-6), 2) := by decide +kernel
theorem dX4_ofMonth_105 : decode cX4_ofMonth 105 = .ok (.if_icmp .eq 7, 3) := by decide +kernel
theorem dX4_ofMonth_108 : decode cX4_ofMonth 108 = .ok (.iconst 1, 1) := by decide +kernel
theorem dX4_ofMonth_109 : decode cX4_ofMonth 109 = .ok (.goto 4, 3) := by decide +kernel
theorem dX4_ofMonth_112 : decode cX4_ofMonth 112 = .ok (.iconst 0, 1) := by decide +kernel
theorem dX4_ofMonth_113 : decode cX4_ofMonth 113 = .ok (.ireturn, 1) := by decide +kernel
theorem dX4_ofMonth_114 : decode cX4_ofMonth 114 = .ok (.aload_n 0, 1) := by decide +kernel
theorem dX4_ofMonth_115 : decode cX4_ofMonth 115 = .ok (.getfield 7, 3) := by decide +kernel
theorem dX4_ofMonth_118 : decode cX4_ofMonth 118 = .ok (.bipush 15, 2) := by decide +kernel
theorem dX4_ofMonth_120 : decode cX4_ofMonth 120 = .ok (.iload_n 1, 1) := by decide +kernel
theorem dX4_ofMonth_121 : decode cX4_ofMonth 121 = .ok (.iadd, 1) := by decide +kernel
theorem dX4_ofMonth_122 : decode cX4_ofMonth 122 = .ok (.iaload, 1) := by decide +kernel
theorem dX4_ofMonth_123 : decode cX4_ofMonth 123 = .ok (.ifCond .ne 7, 3) := by decide +kernel
theorem dX4_ofMonth_126 : decode cX4_ofMonth 126 = .ok (.iconst 4, 1) := by decide +kernel
theorem dX4_ofMonth_127 : decode cX4_ofMonth 127 = .ok (.goto 14, 3) := by decide +kernel
theorem dX4_ofMonth_130 : decode cX4_ofMonth 130 = .ok (.aload_n 0, 1) := by decide +kernel
theorem dX4_ofMonth_131 : decode cX4_ofMonth 131 = .ok (.getfield 7, 3) := by decide +kernel
theorem dX4_ofMonth_134 : decode cX4_ofMonth 134 = .ok (.bipush 15, 2) := by decide +kernel
theorem dX4_ofMonth_136 : decode cX4_ofMonth 136 = .ok (.iload_n 1, 1) := by decide +kernel
theorem dX4_ofMonth_137 : decode cX4_ofMonth 137 = .ok (.iadd, 1) := by decide +kernel
theorem dX4_ofMonth_138 : decode cX4_ofMonth 138 = .ok (.iaload, 1) := by decide +kernel
theorem dX4_ofMonth_139 : decode cX4_ofMonth 139 = .ok (.iconst 1, 1) := by decide +kernel
theorem dX4_ofMonth_140 : decode cX4_ofMonth 140 = .ok (.isub, 1) := by decide +kernel
theorem dX4_ofMonth_141 : decode cX4_ofMonth 141 = .ok (.ireturn, 1) := by decide +kernel
theorem dX4_ofMonth_142 : decode cX4_ofMonth 142 = .ok (.aload_n 0, 1) := by decide +kernel
theorem dX4_ofMonth_143 : decode cX4_ofMonth 143 = .ok (.getfield 7, 3) := by decide +kernel
theorem dX4_ofMonth_146 : decode cX4_ofMonth 146 = .ok (.iload_n 1, 1) := by decide +kernel
theorem dX4_ofMonth_147 : decode cX4_ofMonth 147 = .ok (.invokestatic 79, 3) := by decide +kernel
theorem dX4_ofMonth_150 : decode cX4_ofMonth 150 = .ok (.ireturn, 1) := by decide +kernel
theorem dX4_ofMonth_151 : decode cX4_ofMonth 151 = .ok (.aload_n 0, 1) := by decide +kernel
theorem dX4_ofMonth_152 : decode cX4_ofMonth 152 = .ok (.getfield 7, 3) := by decide +kernel
theorem dX4_ofMonth_155 : decode cX4_ofMonth 155 = .ok (.bipush 15, 2) := by decide +kernel
theorem dX4_ofMonth_157 : decode cX4_ofMonth 157 = .ok (.iload_n 1, 1) := by decide +kernel
theorem dX4_ofMonth_158 : decode cX4_ofMonth 158 = .ok (.iadd, 1) := by decide +kernel
theorem dX4_ofMonth_159 : decode cX4_ofMonth 159 = .ok (.iaload, 1) := by decide +kernel
theorem dX4_ofMonth_160 : decode cX4_ofMonth 160 = .ok (.iconst 2, 1) := by decide +kernel
theorem dX4_ofMonth_161 : decode cX4_ofMonth 161 = .ok (.if_icmp .ne 16, 3) := by decide +kernel
theorem dX4_ofMonth_164 : decode cX4_ofMonth 164 = .ok (.aload_n 0, 1) := by decide +kernel
theorem dX4_ofMonth_165 : decode cX4_ofMonth 165 = .ok (.getfield 7, 3) := by decide +kernel
theorem dX4_ofMonth_168 : decode cX4_ofMonth 168 = .ok (.sipush 135, 3) := by decide +kernel
theorem dX4_ofMonth_171 : decode cX4_ofMonth 171 = .ok (.iload_n 1, 1) := by decide +kernel
theorem dX4_ofMonth_172 : decode cX4_ofMonth 172 = .ok (.iadd, 1) := by decide +kernel
theorem dX4_ofMonth_173 : decode cX4_ofMonth 173 = .ok (.iaload, 1) := by decide +kernel
theorem dX4_ofMonth_174 : decode cX4_ofMonth 174 = .ok (.goto 5, 3) := by decide +kernel
theorem dX4_ofMonth_177 : decode cX4_ofMonth 177 = .ok (.bipush (-6), 2) := by decide +kernel
theorem dX4_ofMonth_179 : decode cX4_ofMonth 179 = .ok (.ireturn, 1) := by decide +kernel
theorem dX4_ofMonth_180 : decode cX4_ofMonth 180 = .ok (.aload_n 0, 1) := by decide +kernel
theorem dX4_ofMonth_181 : decode cX4_ofMonth 181 = .ok (.getfield 7, 3) := by decide +kernel
theorem dX4_ofMonth_184 : decode cX4_ofMonth 184 = .ok (.iload_n 1, 1) := by decide +kernel
theorem dX4_ofMonth_185 : decode cX4_ofMonth 185 = .ok (.invokestatic 64, 3) := by decide +kernel
theorem dX4_ofMonth_188 : decode cX4_ofMonth 188 = .ok (.ireturn, 1) := by decide +kernel
theorem dX4_ofMonth_189 : decode cX4_ofMonth 189 = .ok (.aload_n 0, 1) := by decide +kernel
theorem dX4_ofMonth_190 : decode cX4_ofMonth 190 = .ok (.getfield 7, 3) := by decide +kernel
theorem dX4_ofMonth_193 : decode cX4_ofMonth 193 = .ok (.iload_n 1, 1) := by decide +kernel
theorem dX4_ofMonth_194 : decode cX4_ofMonth 194 = .ok (.invokestatic 163, 3) := by decide +kernel
theorem dX4_ofMonth_197 : decode cX4_ofMonth 197 = .ok (.ireturn, 1) := by decide +kernel
theorem dX4_ofMonth_198 : decode cX4_ofMonth 198 = .ok (.aload_n 0, 1) := by decide +kernel
theorem dX4_ofMonth_199 : decode cX4_ofMonth 199 = .ok (.getfield 7, 3) := by decide +kernel
theorem dX4_ofMonth_202 : decode cX4_ofMonth 202 = .ok (.iload_n 1, 1) := by decide +kernel
theorem dX4_ofMonth_203 : decode cX4_ofMonth 203 = .ok (.invokestatic 90, 3) := by decide +kernel
theorem dX4_ofMonth_206 : decode cX4_ofMonth 206 = .ok (.ireturn, 1) := by decide +kernel
theorem dX4_ofMonth_207 : decode cX4_ofMonth 207 = .ok (.bipush (-2), 2) := by decide +kernel
theorem dX4_ofMonth_209 : decode cX4_ofMonth 209 = .ok (.ireturn, 1) := by decide +kernel
theorem dX4_inMonth_0 : decode cX4_inMonth 0 = .ok (.iload_n 1, 1) := by decide +kernel
theorem dX4_inMonth_1 : decode cX4_inMonth 1 = .ok (.invokestatic 134, 3) := by decide +kernel
theorem dX4_inMonth_4 : decode cX4_inMonth 4 = .ok (.ifCond .eq 26, 3) := by decide +kernel
theorem dX4_inMonth_7 : decode cX4_inMonth 7 = .ok (.iload_n 2, 1) := by decide +kernel
theorem dX4_inMonth_8 : decode cX4_inMonth 8 = .ok (.invokestatic 160, 3) := by decide +kernel
theorem dX4_inMonth_11 : decode cX4_inMonth 11 = .ok (.ifCond .eq 19, 3) := by decide +kernel
theorem dX4_inMonth_14 : decode cX4_inMonth 14 = .ok (.aload_n 0, 1) := by decide +kernel
theorem dX4_inMonth_15 : decode cX4_inMonth 15 = .ok (.getfield 7, 3) := by decide +kernel
theorem dX4_inMonth_18 : decode cX4_inMonth 18 = .ok (.iload_n 2, 1) := by decide +kernel
theorem dX4_inMonth_19 : decode cX4_inMonth 19 = .ok (.iload_n 1, 1) := by decide +kernel
theorem dX4_inMonth_20 : decode cX4_inMonth 20 = .ok (.invokestatic 53, 3) := by decide +kernel
theorem dX4_inMonth_23 : decode cX4_inMonth 23 = .ok (.iaload, 1) := by decide +kernel
theorem dX4_inMonth_24 : decode cX4_inMonth 24 = .ok (.invokestatic 57, 3) := by decide +kernel
theorem dX4_inMonth_27 : decode cX4_inMonth 27 = .ok (.goto 4, 3) := by decide +kernel
theorem dX4_inMonth_30 : decode cX4_inMonth 30 = .ok (.iconst (-1), 1) := by decide +kernel
theorem dX4_inMonth_31 : decode cX4_inMonth 31 = .ok (.ireturn, 1) := by decide +kernel
theorem dX4_dayOf_0 : decode cX4_dayOf 0 = .ok (.iload_n 1, 1) := by decide +kernel
theorem dX4_dayOf_1 : decode cX4_dayOf 1 = .ok (.i2l, 1) := by decide +kernel
theorem dX4_dayOf_2 : decode cX4_dayOf 2 = .ok (.lconst 0, 1) := by decide +kernel
theorem dX4_dayOf_3 : decode cX4_dayOf 3 = .ok (.ldc2_w 166, 3) := by decide +kernel
theorem dX4_dayOf_6 : decode cX4_dayOf 6 = .ok (.invokestatic 34, 3) := by decide +kernel
theorem dX4_dayOf_9 : decode cX4_dayOf 9 = .ok (.ifCond .eq 15, 3) := by decide +kernel
theorem dX4_dayOf_12 : decode cX4_dayOf 12 = .ok (.iload_n 2, 1) := by decide +kernel
theorem dX4_dayOf_13 : decode cX4_dayOf 13 = .ok (.i2l, 1) := by decide +kernel
theorem dX4_dayOf_14 : decode cX4_dayOf 14 = .ok (.lconst 1, 1) := by decide +kernel
theorem dX4_dayOf_15 : decode cX4_dayOf 15 = .ok (.ldc2_w 115, 3) := by decide +kernel
theorem dX4_dayOf_18 : decode cX4_dayOf 18 = .ok (.invokestatic 34, 3) := by decide +kernel
theorem dX4_dayOf_21 : decode cX4_dayOf 21 = .ok (.ifCond .ne 5, 3) := by decide +kernel
theorem dX4_dayOf_24 : decode cX4_dayOf 24 = .ok (.iconst (-1), 1) := by decide +kernel
theorem dX4_dayOf_25 : decode cX4_dayOf 25 = .ok (.ireturn, 1) := by decide +kernel
theorem dX4_dayOf_26 : decode cX4_dayOf 26 = .ok (.bipush 12, 2) := by decide +kernel
theorem dX4_dayOf_28 : decode cX4_dayOf 28 = .ok (.iload_n 1, 1) := by decide +kernel
theorem dX4_dayOf_29 : decode cX4_dayOf 29 = .ok (.imul, 1) := by decide +kernel
theorem dX4_dayOf_30 : decode cX4_dayOf 30 = .ok (.iload_n 2, 1) := by decide +kernel
theorem dX4_dayOf_31 : decode cX4_dayOf 31 = .ok (.iadd, 1) := by decide +kernel
theorem dX4_dayOf_32 : decode cX4_dayOf 32 = .ok (.iconst 1, 1) := by decide +kernel
theorem dX4_dayOf_33 : decode cX4_dayOf 33 = .ok (.isub, 1) := by decide +kernel
theorem dX4_dayOf_34 : decode cX4_dayOf 34 = .ok (.istore 4, 2) := by decide +kernel
theorem dX4_dayOf_36 : decode cX4_dayOf 36 = .ok (.iload_n 3, 1) := by decide +kernel
theorem dX4_dayOf_37 : decode cX4_dayOf 37 = .ok (.i2l, 1) := by decide +kernel
theorem dX4_dayOf_38 : decode cX4_dayOf 38 = .ok (.lconst 1, 1) := by decide +kernel
theorem dX4_dayOf_39 : decode cX4_dayOf 39 = .ok (.aload_n 0, 1) := by decide +kernel
theorem dX4_dayOf_40 : decode cX4_dayOf 40 = .ok (.iload 4, 2) := by decide +kernel
theorem dX4_dayOf_42 : decode cX4_dayOf 42 = .ok (.invokevirtual 46, 3) := by decide +kernel
theorem dX4_dayOf_45 : decode cX4_dayOf 45 = .ok (.i2l, 1) := by decide +kernel
theorem dX4_dayOf_46 : decode cX4_dayOf 46 = .ok (.invokestatic 34, 3) := by decide +kernel
theorem dX4_dayOf_49 : decode cX4_dayOf 49 = .ok (.ifCond .eq 17, 3) := by decide +kernel
theorem dX4_dayOf_52 : decode cX4_dayOf 52 = .ok (.aload_n 0, 1) := by decide +kernel
theorem dX4_dayOf_53 : decode cX4_dayOf 53 = .ok (.getfield 29, 3) := by decide +kernel
theorem dX4_dayOf_56 : decode cX4_dayOf 56 = .ok (.iload 4, 2) := by decide +kernel
theorem dX4_dayOf_58 : decode cX4_dayOf 58 = .ok (.iaload, 1) := by decide +kernel
theorem dX4_dayOf_59 : decode cX4_dayOf 59 = .ok (.iload_n 3, 1) := by decide +kernel
theorem dX4_dayOf_60 : decode cX4_dayOf 60 = .ok (.iadd, 1) := by decide +kernel
theorem dX4_dayOf_61 : decode cX4_dayOf 61 = .ok (.iconst 1, 1) := by decide +kernel
theorem dX4_dayOf_62 : decode cX4_dayOf 62 = .ok (.isub, 1) := by decide +kernel
theorem dX4_dayOf_63 : decode cX4_dayOf 63 = .ok (.goto 4, 3) := by decide +kernel
theorem dX4_dayOf_66 : decode cX4_dayOf 66 = .ok (.iconst (-1), 1) := by decide +kernel
theorem dX4_dayOf_67 : decode cX4_dayOf 67 = .ok (.ireturn, 1) := by decide +kernel
theorem dX4_dateOf_0 : decode cX4_dateOf 0 = .ok (.iload_n 1, 1) := by decide +kernel
theorem dX4_dateOf_1 : decode cX4_dateOf 1 = .ok (.invokestatic 130, 3) := by decide +kernel
theorem dX4_dateOf_4 : decode cX4_dateOf 4 = .ok (.ifCond .ne 5, 3) := by decide +kernel
theorem dX4_dateOf_7 : decode cX4_dateOf 7 = .ok (.iconst (-1), 1) := by decide +kernel
theorem dX4_dateOf_8 : decode cX4_dateOf 8 = .ok (.ireturn, 1) := by decide +kernel
theorem dX4_dateOf_9 : decode cX4_dateOf 9 = .ok (.aload_n 0, 1) := by decide +kernel
theorem dX4_dateOf_10 : decode cX4_dateOf 10 = .ok (.iload_n 1, 1) := by decide +kernel
theorem dX4_dateOf_11 : decode cX4_dateOf 11 = .ok (.invokevirtual 42, 3) := by decide +kernel
theorem dX4_dateOf_14 : decode cX4_dateOf 14 = .ok (.istore_n 3, 1) := by decide +kernel
theorem dX4_dateOf_15 : decode cX4_dateOf 15 = .ok (.iload_n 2, 1) := by decide +kernel
theorem dX4_dateOf_16 : decode cX4_dateOf 16 = .ok (.i2l, 1) := by decide +kernel
theorem dX4_dateOf_17 : decode cX4_dateOf 17 = .ok (.lconst 0, 1) := by decide +kernel
theorem dX4_dateOf_18 : decode cX4_dateOf 18 = .ok (.ldc2_w 168, 3) := by decide +kernel
theorem dX4_dateOf_21 : decode cX4_dateOf 21 = .ok (.invokestatic 34, 3) := by decide +kernel
theorem dX4_dateOf_24 : decode cX4_dateOf 24 = .ok (.ifCond .ne 8, 3) := by decide +kernel
theorem dX4_dateOf_27 : decode cX4_dateOf 27 = .ok (.bipush (-2), 2) := by decide +kernel
theorem dX4_dateOf_29 : decode cX4_dateOf 29 = .ok (.goto 48, 3) := by decide +kernel
theorem dX4_dateOf_32 : decode cX4_dateOf 32 = .ok (.iload_n 2, 1) := by decide +kernel
theorem dX4_dateOf_33 : decode cX4_dateOf 33 = .ok (.ifCond .ne 11, 3) := by decide +kernel
theorem dX4_dateOf_36 : decode cX4_dateOf 36 = .ok (.iload_n 1, 1) := by decide +kernel
theorem dX4_dateOf_37 : decode cX4_dateOf 37 = .ok (.sipush 365, 3) := by decide +kernel
theorem dX4_dateOf_40 : decode cX4_dateOf 40 = .ok (.idiv, 1) := by decide +kernel
theorem dX4_dateOf_41 : decode cX4_dateOf 41 = .ok (.goto 36, 3) := by decide +kernel
theorem dX4_dateOf_44 : decode cX4_dateOf 44 = .ok (.iload_n 2, 1) := by decide +kernel
theorem dX4_dateOf_45 : decode cX4_dateOf 45 = .ok (.iconst 1, 1) := by decide +kernel
theorem dX4_dateOf_46 : decode cX4_dateOf 46 = .ok (.if_icmp .ne 12, 3) := by decide +kernel
theorem dX4_dateOf_49 : decode cX4_dateOf 49 = .ok (.iconst 1, 1) := by decide +kernel
theorem dX4_dateOf_50 : decode cX4_dateOf 50 = .ok (.iload_n 3, 1) := by decide +kernel
theorem dX4_dateOf_51 : decode cX4_dateOf 51 = .ok (.bipush 12, 2) := by decide +kernel
theorem dX4_dateOf_53 : decode cX4_dateOf 53 = .ok (.irem, 1) := by decide +kernel
theorem dX4_dateOf_54 : decode cX4_dateOf 54 = .ok (.iadd, 1) := by decide +kernel
theorem dX4_dateOf_55 : decode cX4_dateOf 55 = .ok (.goto 22, 3) := by decide +kernel
theorem dX4_dateOf_58 : decode cX4_dateOf 58 = .ok (.iload_n 2, 1) := by decide +kernel
theorem dX4_dateOf_59 : decode cX4_dateOf 59 = .ok (.iconst 2, 1) := by decide +kernel
theorem dX4_dateOf_60 : decode cX4_dateOf 60 = .ok (.if_icmp .ne 16, 3) := by decide +kernel
theorem dX4_dateOf_63 : decode cX4_dateOf 63 = .ok (.iconst 1, 1) := by decide +kernel
theorem dX4_dateOf_64 : decode cX4_dateOf 64 = .ok (.iload_n 1, 1) := by decide +kernel
theorem dX4_dateOf_65 : decode cX4_dateOf 65 = .ok (.iadd, 1) := by decide +kernel
theorem dX4_dateOf_66 : decode cX4_dateOf 66 = .ok (.aload_n 0, 1) := by decide +kernel
theorem dX4_dateOf_67 : decode cX4_dateOf 67 = .ok (.getfield 29, 3) := by decide +kernel
theorem dX4_dateOf_70 : decode cX4_dateOf 70 = .ok (.iload_n 3, 1) := by decide +kernel
theorem dX4_dateOf_71 : decode cX4_dateOf 71 = .ok (.iaload, 1) := by decide +kernel
theorem dX4_dateOf_72 : decode cX4_dateOf 72 = .ok (.isub, 1) := by decide +kernel
theorem dX4_dateOf_73 : decode cX4_dateOf 73 = .ok (.goto 4, 3) := by decide +kernel
theorem dX4_dateOf_76 : decode cX4_dateOf 76 = .ok (.iload_n 3, 1) := by decide +kernel
theorem dX4_dateOf_77 : decode cX4_dateOf 77 = .ok (.ireturn, 1) := by decide +kernel
theorem dX4_count_0 : decode cX4_count 0 = .ok (.iconst 0, 1) := by decide +kernel
theorem dX4_count_1 : decode cX4_count 1 = .ok (.istore_n 2, 1) := by decide +kernel
theorem dX4_count_2 : decode cX4_count 2 = .ok (.aload_n 0, 1) := by decide +kernel
theorem dX4_count_3 : decode cX4_count 3 = .ok (.aload_n 0, 1) := by decide +kernel
theorem dX4_count_4 : decode cX4_count 4 = .ok (.getfield 7, 3) := by decide +kernel
theorem dX4_count_7 : decode cX4_count 7 = .ok (.iconst 0, 1) := by decide +kernel
theorem dX4_count_8 : decode cX4_count 8 = .ok (.iaload, 1) := by decide +kernel
theorem dX4_count_9 : decode cX4_count 9 = .ok (.invokevirtual 42, 3) := by decide +kernel
theorem dX4_count_12 : decode cX4_count 12 = .ok (.istore_n 3, 1) := by decide +kernel
theorem dX4_count_13 : decode cX4_count 13 = .ok (.iload_n 1, 1) := by decide +kernel
theorem dX4_count_14 : decode cX4_count 14 = .ok (.tableswitch 215 0 12 #[66, 73, 75, 103, 111, 140, 147, 154, 161, 191, 198, 205, 210], 66) := by decide +kernel
theorem dX4_count_80 : decode cX4_count 80 = .ok (.aload_n 0, 1) := by decide +kernel
theorem dX4_count_81 : decode cX4_count 81 = .ok (.getfield 7, 3) := by decide +kernel
theorem dX4_count_84 : decode cX4_count 84 = .ok (.iconst 0, 1) := by decide +kernel
theorem dX4_count_85 : decode cX4_count 85 = .ok (.iaload, 1) := by decide +kernel
theorem dX4_count_86 : decode cX4_count 86 = .ok (.ireturn, 1) := by decide +kernel
theorem dX4_count_87 : decode cX4_count 87 = .ok (.iload_n 3, 1) := by decide +kernel
theorem dX4_count_88 : decode cX4_count 88 = .ok (.ireturn, 1) := by decide +kernel
theorem dX4_count_89 : decode cX4_count 89 = .ok (.iload_n 3, 1) := by decide +kernel
theorem dX4_count_90 : decode cX4_count 90 = .ok (.aload_n 0, 1) := by decide +kernel
theorem dX4_count_91 : decode cX4_count 91 = .ok (.getfield 7, 3) := by decide +kernel
theorem dX4_count_94 : decode cX4_count 94 = .ok (.iconst 1, 1) := by decide +kernel
theorem dX4_count_95 : decode cX4_count 95 = .ok (.iaload, 1) := by decide +kernel
theorem dX4_count_96 : decode cX4_count 96 = .ok (.isub, 1) := by decide +kernel
theorem dX4_count_97 : decode cX4_count 97 = .ok (.iconst 1, 1) := by decide +kernel
theorem dX4_count_98 : decode cX4_count 98 = .ok (.iadd, 1) := by decide +kernel
theorem dX4_count_99 : decode cX4_count 99 = .ok (.ifCond .le 16, 3) := by decide +kernel
theorem dX4_count_102 : decode cX4_count 102 = .ok (.iload_n 3, 1) := by decide +kernel
theorem dX4_count_103 : decode cX4_count 103 = .ok (.aload_n 0, 1) := by decide +kernel
theorem dX4_count_104 : decode cX4_count 104 = .ok (.getfield 7, 3) := by decide +kernel
theorem dX4_count_107 : decode cX4_count 107 = .ok (.iconst 1, 1) := by decide +kernel
theorem dX4_count_108 : decode cX4_count 108 = .ok (.iaload, 1) := by decide +kernel
theorem dX4_count_109 : decode cX4_count 109 = .ok (.isub, 1) := by decide +kernel
theorem dX4_count_110 : decode cX4_count 110 = .ok (.iconst 1, 1) := by decide +kernel
theorem dX4_count_111 : decode cX4_count 111 = .ok (.iadd, 1) := by decide +kernel
theorem dX4_count_112 : decode cX4_count 112 = .ok (.goto 4, 3) := by decide +kernel
theorem dX4_count_115 : decode cX4_count 115 = .ok (.iconst 0, 1) := by decide +kernel
theorem dX4_count_116 : decode cX4_count 116 = .ok (.ireturn, 1) := by decide +kernel
theorem dX4_count_117 : decode cX4_count 117 = .ok (.aload_n 0, 1) := by decide +kernel
theorem dX4_count_118 : decode cX4_count 118 = .ok (.getfield 7, 3) := by decide +kernel
theorem dX4_count_121 : decode cX4_count 121 = .ok (.bipush 6, 2) := by decide +kernel
theorem dX4_count_123 : decode cX4_count 123 = .ok (.iaload, 1) := by decide +kernel
theorem dX4_count_124 : decode cX4_count 124 = .ok (.ireturn, 1) := by decide +kernel
theorem dX4_count_125 : decode cX4_count 125 = .ok (.iconst 0, 1) := by decide +kernel
theorem dX4_count_126 : decode cX4_count 126 = .ok (.istore 4, 2) := by decide +kernel
theorem dX4_count_128 : decode cX4_count 128 = .ok (.iload 4, 2) := by decide +kernel
theorem dX4_count_130 : decode cX4_count 130 = .ok (.iload_n 3, 1) := by decide +kernel
theorem dX4_count_131 : decode cX4_count 131 = .ok (.if_icmp .gt 21, 3) := by decide +kernel
theorem dX4_count_134 : decode cX4_count 134 = .ok (.iload_n 2, 1) := by decide +kernel
theorem dX4_count_135 : decode cX4_count 135 = .ok (.aload_n 0, 1) := by decide +kernel
theorem dX4_count_136 : decode cX4_count 136 = .ok (.getfield 7, 3) := by decide +kernel
theorem dX4_count_139 : decode cX4_count 139 = .ok (.iload 4, 2) := by decide +kernel
theorem dX4_count_141 : decode cX4_count 141 = .ok (.invokestatic 79, 3) := by decide +kernel
theorem dX4_count_144 : decode cX4_count 144 = .ok (.iadd, 1) := by decide +kernel
theorem dX4_count_145 : decode cX4_count 145 = .ok (.istore_n 2, 1) := by decide +kernel
theorem dX4_count_146 : decode cX4_count 146 = .ok (.iinc 4 1, 3) := by decide +kernel
theorem dX4_count_149 : decode cX4_count 149 = .ok (.goto (-21), 3) := by decide +kernel
theorem dX4_count_152 : decode cX4_count 152 = .ok (.iload_n 2, 1) := by decide +kernel
theorem dX4_count_153 : decode cX4_count 153 = .ok (.ireturn, 1) := by decide +kernel
theorem dX4_count_154 : decode cX4_count 154 = .ok (.aload_n 0, 1) := by decide +kernel
theorem dX4_count_155 : decode cX4_count 155 = .ok (.getfield 7, 3) := by decide +kernel
theorem dX4_count_158 : decode cX4_count 158 = .ok (.iconst 3, 1) := by decide +kernel
theorem dX4_count_159 : decode cX4_count 159 = .ok (.iaload, 1) := by decide +kernel
theorem dX4_count_160 : decode cX4_count 160 = .ok (.ireturn, 1) := by decide +kernel
theorem dX4_count_161 : decode cX4_count 161 = .ok (.aload_n 0, 1) := by decide +kernel
theorem dX4_count_162 : decode cX4_count 162 = .ok (.getfield 7, 3) := by decide +kernel
theorem dX4_count_165 : decode cX4_count 165 = .ok (.iconst 4, 1) := by decide +kernel
theorem dX4_count_166 : decode cX4_count 166 = .ok (.iaload, 1) := by decide +kernel
theorem dX4_count_167 : decode cX4_count 167 = .ok (.ireturn, 1) := by decide +kernel
theorem dX4_count_168 : decode cX4_count 168 = .ok (.aload_n 0, 1) := by decide +kernel
theorem dX4_count_169 : decode cX4_count 169 = .ok (.getfield 7, 3) := by decide +kernel
theorem dX4_count_172 : decode cX4_count 172 = .ok (.iconst 5, 1) := by decide +kernel
theorem dX4_count_173 : decode cX4_count 173 = .ok (.iaload, 1) := by decide +kernel
theorem dX4_count_174 : decode cX4_count 174 = .ok (.ireturn, 1) := by decide +kernel
theorem dX4_count_175 : decode cX4_count 175 = .ok (.iconst 0, 1) := by decide +kernel
theorem dX4_count_176 : decode cX4_count 176 = .ok (.istore 4, 2) := by decide +kernel
theorem dX4_count_178 : decode cX4_count 178 = .ok (.iload 4, 2) := by decide +kernel
theorem dX4_count_180 : decode cX4_count 180 = .ok (.bipush 120, 2) := by decide +kernel
theorem dX4_count_182 : decode cX4_count 182 = .ok (.if_icmp .ge 21, 3) := by decide +kernel
theorem dX4_count_185 : decode cX4_count 185 = .ok (.iload_n 2, 1) := by decide +kernel
theorem dX4_count_186 : decode cX4_count 186 = .ok (.aload_n 0, 1) := by decide +kernel
theorem dX4_count_187 : decode cX4_count 187 = .ok (.getfield 7, 3) := by decide +kernel
theorem dX4_count_190 : decode cX4_count 190 = .ok (.iload 4, 2) := by decide +kernel
theorem dX4_count_192 : decode cX4_count 192 = .ok (.invokestatic 64, 3) := by decide +kernel
theorem dX4_count_195 : decode cX4_count 195 = .ok (.iadd, 1) := by decide +kernel
theorem dX4_count_196 : decode cX4_count 196 = .ok (.istore_n 2, 1) := by decide +kernel
theorem dX4_count_197 : decode cX4_count 197 = .ok (.iinc 4 1, 3) := by decide +kernel
theorem dX4_count_200 : decode cX4_count 200 = .ok (.goto (-22), 3) := by decide +kernel
theorem dX4_count_203 : decode cX4_count 203 = .ok (.iload_n 2, 1) := by decide +kernel
theorem dX4_count_204 : decode cX4_count 204 = .ok (.ireturn, 1) := by decide +kernel
theorem dX4_count_205 : decode cX4_count 205 = .ok (.aload_n 0, 1) := by decide +kernel
theorem dX4_count_206 : decode cX4_count 206 = .ok (.getfield 7, 3) := by decide +kernel
theorem dX4_count_209 : decode cX4_count 209 = .ok (.iconst 1, 1) := by decide +kernel
theorem dX4_count_210 : decode cX4_count 210 = .ok (.iaload, 1) := by decide +kernel
theorem dX4_count_211 : decode cX4_count 211 = .ok (.ireturn, 1) := by decide +kernel
theorem dX4_count_212 : decode cX4_count 212 = .ok (.aload_n 0, 1) := by decide +kernel
theorem dX4_count_213 : decode cX4_count 213 = .ok (.getfield 7, 3) := by decide +kernel
theorem dX4_count_216 : decode cX4_count 216 = .ok (.iconst 2, 1) := by decide +kernel
theorem dX4_count_217 : decode cX4_count 217 = .ok (.iaload, 1) := by decide +kernel
theorem dX4_count_218 : decode cX4_count 218 = .ok (.ireturn, 1) := by decide +kernel
theorem dX4_count_219 : decode cX4_count 219 = .ok (.aload_n 0, 1) := by decide +kernel
theorem dX4_count_220 : decode cX4_count 220 = .ok (.getfield 170, 3) := by decide +kernel
theorem dX4_count_223 : decode cX4_count 223 = .ok (.ireturn, 1) := by decide +kernel
theorem dX4_count_224 : decode cX4_count 224 = .ok (.aload_n 0, 1) := by decide +kernel
theorem dX4_count_225 : decode cX4_count 225 = .ok (.getfield 107, 3) := by decide +kernel
theorem dX4_count_228 : decode cX4_count 228 = .ok (.ireturn, 1) := by decide +kernel
theorem dX4_count_229 : decode cX4_count 229 = .ok (.bipush (-2), 2) := by decide +kernel
theorem dX4_count_231 : decode cX4_count 231 = .ok (.ireturn, 1) := by decide +kernel
theorem dX4_sizeAs_0 : decode cX4_sizeAs 0 = .ok (.iload_n 1, 1) := by decide +kernel
theorem dX4_sizeAs_1 : decode cX4_sizeAs 1 = .ok (.invokestatic 160, 3) := by decide +kernel
theorem dX4_sizeAs_4 : decode cX4_sizeAs 4 = .ok (.ifCond .ne 5, 3) := by decide +kernel
theorem dX4_sizeAs_7 : decode cX4_sizeAs 7 = .ok (.iconst (-1), 1) := by decide +kernel
theorem dX4_sizeAs_8 : decode cX4_sizeAs 8 = .ok (.ireturn, 1) := by decide +kernel
theorem dX4_sizeAs_9 : decode cX4_sizeAs 9 = .ok (.iload_n 2, 1) := by decide +kernel
theorem dX4_sizeAs_10 : decode cX4_sizeAs 10 = .ok (.i2l, 1) := by decide +kernel
theorem dX4_sizeAs_11 : decode cX4_sizeAs 11 = .ok (.lconst 0, 1) := by decide +kernel
theorem dX4_sizeAs_12 : decode cX4_sizeAs 12 = .ok (.ldc2_w 173, 3) := by decide +kernel
theorem dX4_sizeAs_15 : decode cX4_sizeAs 15 = .ok (.invokestatic 34, 3) := by decide +kernel
theorem dX4_sizeAs_18 : decode cX4_sizeAs 18 = .ok (.ifCond .eq 17, 3) := by decide +kernel
theorem dX4_sizeAs_21 : decode cX4_sizeAs 21 = .ok (.aload_n 0, 1) := by decide +kernel
theorem dX4_sizeAs_22 : decode cX4_sizeAs 22 = .ok (.getfield 7, 3) := by decide +kernel
theorem dX4_sizeAs_25 : decode cX4_sizeAs 25 = .ok (.iload_n 1, 1) := by decide +kernel
theorem dX4_sizeAs_26 : decode cX4_sizeAs 26 = .ok (.iload_n 2, 1) := by decide +kernel
theorem dX4_sizeAs_27 : decode cX4_sizeAs 27 = .ok (.bipush (-6), 2) := by decide +kernel
theorem dX4_sizeAs_29 : decode cX4_sizeAs 29 = .ok (.invokestatic 75, 3) := by decide +kernel
theorem dX4_sizeAs_32 : decode cX4_sizeAs 32 = .ok (.goto 5, 3) := by decide +kernel
theorem dX4_sizeAs_35 : decode cX4_sizeAs 35 = .ok (.bipush (-2), 2) := by decide +kernel
theorem dX4_sizeAs_37 : decode cX4_sizeAs 37 = .ok (.ireturn, 1) := by decide +kernel
theorem dX4_lookAll_0 : decode cX4_lookAll 0 = .ok (.aload_n 0, 1) := by decide +kernel
theorem dX4_lookAll_1 : decode cX4_lookAll 1 = .ok (.iload_n 1, 1) := by decide +kernel
theorem dX4_lookAll_2 : decode cX4_lookAll 2 = .ok (.invokevirtual 42, 3) := by decide +kernel
theorem dX4_lookAll_5 : decode cX4_lookAll 5 = .ok (.istore_n 3, 1) := by decide +kernel
theorem dX4_lookAll_6 : decode cX4_lookAll 6 = .ok (.iload_n 3, 1) := by decide +kernel
theorem dX4_lookAll_7 : decode cX4_lookAll 7 = .ok (.aload_n 0, 1) := by decide +kernel
theorem dX4_lookAll_8 : decode cX4_lookAll 8 = .ok (.iload_n 2, 1) := by decide +kernel
theorem dX4_lookAll_9 : decode cX4_lookAll 9 = .ok (.invokevirtual 42, 3) := by decide +kernel
theorem dX4_lookAll_12 : decode cX4_lookAll 12 = .ok (.if_icmp .gt 18, 3) := by decide +kernel
theorem dX4_lookAll_15 : decode cX4_lookAll 15 = .ok (.aload_n 0, 1) := by decide +kernel
theorem dX4_lookAll_16 : decode cX4_lookAll 16 = .ok (.aload_n 0, 1) := by decide +kernel
theorem dX4_lookAll_17 : decode cX4_lookAll 17 = .ok (.getfield 13, 3) := by decide +kernel
theorem dX4_lookAll_20 : decode cX4_lookAll 20 = .ok (.iload_n 3, 1) := by decide +kernel
theorem dX4_lookAll_21 : decode cX4_lookAll 21 = .ok (.invokevirtual 155, 3) := by decide +kernel
theorem dX4_lookAll_24 : decode cX4_lookAll 24 = .ok (.iinc 3 1, 3) := by decide +kernel
theorem dX4_lookAll_27 : decode cX4_lookAll 27 = .ok (.goto (-21), 3) := by decide +kernel
theorem dX4_lookAll_30 : decode cX4_lookAll 30 = .ok (.return_, 1) := by decide +kernel
theorem dX4_workOf_0 : decode cX4_workOf 0 = .ok (.iconst 1, 1) := by decide +kernel
theorem dX4_workOf_1 : decode cX4_workOf 1 = .ok (.iload_n 1, 1) := by decide +kernel
theorem dX4_workOf_2 : decode cX4_workOf 2 = .ok (.iload_n 2, 1) := by decide +kernel
theorem dX4_workOf_3 : decode cX4_workOf 3 = .ok (.invokestatic 137, 3) := by decide +kernel
theorem dX4_workOf_6 : decode cX4_workOf 6 = .ok (.istore_n 3, 1) := by decide +kernel
theorem dX4_workOf_7 : decode cX4_workOf 7 = .ok (.iload_n 3, 1) := by decide +kernel
theorem dX4_workOf_8 : decode cX4_workOf 8 = .ok (.ifCond .eq 5, 3) := by decide +kernel
theorem dX4_workOf_11 : decode cX4_workOf 11 = .ok (.iload_n 3, 1) := by decide +kernel
theorem dX4_workOf_12 : decode cX4_workOf 12 = .ok (.ireturn, 1) := by decide +kernel
theorem dX4_workOf_13 : decode cX4_workOf 13 = .ok (.aload_n 0, 1) := by decide +kernel
theorem dX4_workOf_14 : decode cX4_workOf 14 = .ok (.getfield 7, 3) := by decide +kernel
theorem dX4_workOf_17 : decode cX4_workOf 17 = .ok (.iconst 0, 1) := by decide +kernel
theorem dX4_workOf_18 : decode cX4_workOf 18 = .ok (.aload_n 0, 1) := by decide +kernel
theorem dX4_workOf_19 : decode cX4_workOf 19 = .ok (.getfield 13, 3) := by decide +kernel
theorem dX4_workOf_22 : decode cX4_workOf 22 = .ok (.iconst 0, 1) := by decide +kernel
theorem dX4_workOf_23 : decode cX4_workOf 23 = .ok (.invokestatic 111, 3) := by decide +kernel
theorem dX4_workOf_26 : decode cX4_workOf 26 = .ok (.aload_n 0, 1) := by decide +kernel
theorem dX4_workOf_27 : decode cX4_workOf 27 = .ok (.iload_n 1, 1) := by decide +kernel
theorem dX4_workOf_28 : decode cX4_workOf 28 = .ok (.iload_n 2, 1) := by decide +kernel
theorem dX4_workOf_29 : decode cX4_workOf 29 = .ok (.invokevirtual 175, 3) := by decide +kernel
theorem dX4_workOf_32 : decode cX4_workOf 32 = .ok (.aload_n 0, 1) := by decide +kernel
theorem dX4_workOf_33 : decode cX4_workOf 33 = .ok (.getfield 13, 3) := by decide +kernel
theorem dX4_workOf_36 : decode cX4_workOf 36 = .ok (.iconst 3, 1) := by decide +kernel
theorem dX4_workOf_37 : decode cX4_workOf 37 = .ok (.iaload, 1) := by decide +kernel
theorem dX4_workOf_38 : decode cX4_workOf 38 = .ok (.aload_n 0, 1) := by decide +kernel
theorem dX4_workOf_39 : decode cX4_workOf 39 = .ok (.getfield 7, 3) := by decide +kernel
theorem dX4_workOf_42 : decode cX4_workOf 42 = .ok (.iconst 3, 1) := by decide +kernel
theorem dX4_workOf_43 : decode cX4_workOf 43 = .ok (.iaload, 1) := by decide +kernel
theorem dX4_workOf_44 : decode cX4_workOf 44 = .ok (.isub, 1) := by decide +kernel
theorem dX4_workOf_45 : decode cX4_workOf 45 = .ok (.ireturn, 1) := by decide +kernel
theorem dX4_bestOpen_0 : decode cX4_bestOpen 0 = .ok (.iconst 1, 1) := by decide +kernel
theorem dX4_bestOpen_1 : decode cX4_bestOpen 1 = .ok (.iload_n 1, 1) := by decide +kernel
theorem dX4_bestOpen_2 : decode cX4_bestOpen 2 = .ok (.iload_n 2, 1) := by decide +kernel
theorem dX4_bestOpen_3 : decode cX4_bestOpen 3 = .ok (.invokestatic 137, 3) := by decide +kernel
theorem dX4_bestOpen_6 : decode cX4_bestOpen 6 = .ok (.istore_n 3, 1) := by decide +kernel
theorem dX4_bestOpen_7 : decode cX4_bestOpen 7 = .ok (.iload_n 3, 1) := by decide +kernel
theorem dX4_bestOpen_8 : decode cX4_bestOpen 8 = .ok (.ifCond .eq 5, 3) := by decide +kernel
theorem dX4_bestOpen_11 : decode cX4_bestOpen 11 = .ok (.iload_n 3, 1) := by decide +kernel
theorem dX4_bestOpen_12 : decode cX4_bestOpen 12 = .ok (.ireturn, 1) := by decide +kernel
theorem dX4_bestOpen_13 : decode cX4_bestOpen 13 = .ok (.bipush (-6), 2) := by decide +kernel
theorem dX4_bestOpen_15 : decode cX4_bestOpen 15 = .ok (.istore 4, 2) := by decide +kernel
theorem dX4_bestOpen_17 : decode cX4_bestOpen 17 = .ok (.iconst 0, 1) := by decide +kernel
theorem dX4_bestOpen_18 : decode cX4_bestOpen 18 = .ok (.istore 5, 2) := by decide +kernel
theorem dX4_bestOpen_20 : decode cX4_bestOpen 20 = .ok (.iconst 0, 1) := by decide +kernel
theorem dX4_bestOpen_21 : decode cX4_bestOpen 21 = .ok (.istore 6, 2) := by decide +kernel
theorem dX4_bestOpen_23 : decode cX4_bestOpen 23 = .ok (.iload 6, 2) := by decide +kernel
theorem dX4_bestOpen_25 : decode cX4_bestOpen 25 = .ok (.bipush 6, 2) := by decide +kernel
theorem dX4_bestOpen_27 : decode cX4_bestOpen 27 = .ok (.if_icmp .gt 113, 3) := by decide +kernel
theorem dX4_bestOpen_30 : decode cX4_bestOpen 30 = .ok (.aload_n 0, 1) := by decide +kernel
theorem dX4_bestOpen_31 : decode cX4_bestOpen 31 = .ok (.getfield 7, 3) := by decide +kernel
theorem dX4_bestOpen_34 : decode cX4_bestOpen 34 = .ok (.iconst 0, 1) := by decide +kernel
theorem dX4_bestOpen_35 : decode cX4_bestOpen 35 = .ok (.aload_n 0, 1) := by decide +kernel
theorem dX4_bestOpen_36 : decode cX4_bestOpen 36 = .ok (.getfield 13, 3) := by decide +kernel
theorem dX4_bestOpen_39 : decode cX4_bestOpen 39 = .ok (.iconst 0, 1) := by decide +kernel
theorem dX4_bestOpen_40 : decode cX4_bestOpen 40 = .ok (.invokestatic 111, 3) := by decide +kernel
theorem dX4_bestOpen_43 : decode cX4_bestOpen 43 = .ok (.aload_n 0, 1) := by decide +kernel
theorem dX4_bestOpen_44 : decode cX4_bestOpen 44 = .ok (.getfield 13, 3) := by decide +kernel
theorem dX4_bestOpen_47 : decode cX4_bestOpen 47 = .ok (.iconst 2, 1) := by decide +kernel
theorem dX4_bestOpen_48 : decode cX4_bestOpen 48 = .ok (.iload 6, 2) := by decide +kernel
theorem dX4_bestOpen_50 : decode cX4_bestOpen 50 = .ok (.iastore, 1) := by decide +kernel
theorem dX4_bestOpen_51 : decode cX4_bestOpen 51 = .ok (.aload_n 0, 1) := by decide +kernel
theorem dX4_bestOpen_52 : decode cX4_bestOpen 52 = .ok (.getfield 13, 3) := by decide +kernel
theorem dX4_bestOpen_55 : decode cX4_bestOpen 55 = .ok (.invokestatic 103, 3) := by decide +kernel
theorem dX4_bestOpen_58 : decode cX4_bestOpen 58 = .ok (.aload_n 0, 1) := by decide +kernel
theorem dX4_bestOpen_59 : decode cX4_bestOpen 59 = .ok (.iload_n 1, 1) := by decide +kernel
theorem dX4_bestOpen_60 : decode cX4_bestOpen 60 = .ok (.iload_n 2, 1) := by decide +kernel
theorem dX4_bestOpen_61 : decode cX4_bestOpen 61 = .ok (.invokevirtual 175, 3) := by decide +kernel
theorem dX4_bestOpen_64 : decode cX4_bestOpen 64 = .ok (.aload_n 0, 1) := by decide +kernel
theorem dX4_bestOpen_65 : decode cX4_bestOpen 65 = .ok (.iload_n 1, 1) := by decide +kernel
theorem dX4_bestOpen_66 : decode cX4_bestOpen 66 = .ok (.iload_n 2, 1) := by decide +kernel
theorem dX4_bestOpen_67 : decode cX4_bestOpen 67 = .ok (.invokevirtual 175, 3) := by decide +kernel
theorem dX4_bestOpen_70 : decode cX4_bestOpen 70 = .ok (.aload_n 0, 1) := by decide +kernel
theorem dX4_bestOpen_71 : decode cX4_bestOpen 71 = .ok (.getfield 13, 3) := by decide +kernel
theorem dX4_bestOpen_74 : decode cX4_bestOpen 74 = .ok (.iconst 3, 1) := by decide +kernel
theorem dX4_bestOpen_75 : decode cX4_bestOpen 75 = .ok (.iaload, 1) := by decide +kernel
theorem dX4_bestOpen_76 : decode cX4_bestOpen 76 = .ok (.aload_n 0, 1) := by decide +kernel
theorem dX4_bestOpen_77 : decode cX4_bestOpen 77 = .ok (.getfield 7, 3) := by decide +kernel
theorem dX4_bestOpen_80 : decode cX4_bestOpen 80 = .ok (.iconst 3, 1) := by decide +kernel
theorem dX4_bestOpen_81 : decode cX4_bestOpen 81 = .ok (.iaload, 1) := by decide +kernel
theorem dX4_bestOpen_82 : decode cX4_bestOpen 82 = .ok (.isub, 1) := by decide +kernel
theorem dX4_bestOpen_83 : decode cX4_bestOpen 83 = .ok (.istore 7, 2) := by decide +kernel
theorem dX4_bestOpen_85 : decode cX4_bestOpen 85 = .ok (.iload 4, 2) := by decide +kernel
theorem dX4_bestOpen_87 : decode cX4_bestOpen 87 = .ok (.bipush (-6), 2) := by decide +kernel
theorem dX4_bestOpen_89 : decode cX4_bestOpen 89 = .ok (.if_icmp .eq 10, 3) := by decide +kernel
theorem dX4_bestOpen_92 : decode cX4_bestOpen 92 = .ok (.iload 7, 2) := by decide +kernel
theorem dX4_bestOpen_94 : decode cX4_bestOpen 94 = .ok (.iload 5, 2) := by decide +kernel
theorem dX4_bestOpen_96 : decode cX4_bestOpen 96 = .ok (.if_icmp .ge 7, 3) := by decide +kernel
theorem dX4_bestOpen_99 : decode cX4_bestOpen 99 = .ok (.iconst 1, 1) := by decide +kernel
theorem dX4_bestOpen_100 : decode cX4_bestOpen 100 = .ok (.goto 4, 3) := by decide +kernel
theorem dX4_bestOpen_103 : decode cX4_bestOpen 103 = .ok (.iconst 0, 1) := by decide +kernel
theorem dX4_bestOpen_104 : decode cX4_bestOpen 104 = .ok (.istore 8, 2) := by decide +kernel
theorem dX4_bestOpen_106 : decode cX4_bestOpen 106 = .ok (.iload 8, 2) := by decide +kernel
theorem dX4_bestOpen_108 : decode cX4_bestOpen 108 = .ok (.ifCond .eq 8, 3) := by decide +kernel
theorem dX4_bestOpen_111 : decode cX4_bestOpen 111 = .ok (.iload 6, 2) := by decide +kernel
theorem dX4_bestOpen_113 : decode cX4_bestOpen 113 = .ok (.goto 5, 3) := by decide +kernel
theorem dX4_bestOpen_116 : decode cX4_bestOpen 116 = .ok (.iload 4, 2) := by decide +kernel
theorem dX4_bestOpen_118 : decode cX4_bestOpen 118 = .ok (.istore 4, 2) := by decide +kernel
theorem dX4_bestOpen_120 : decode cX4_bestOpen 120 = .ok (.iload 8, 2) := by decide +kernel
theorem dX4_bestOpen_122 : decode cX4_bestOpen 122 = .ok (.ifCond .eq 8, 3) := by decide +kernel
theorem dX4_bestOpen_125 : decode cX4_bestOpen 125 = .ok (.iload 7, 2) := by decide +kernel
theorem dX4_bestOpen_127 : decode cX4_bestOpen 127 = .ok (.goto 5, 3) := by decide +kernel
theorem dX4_bestOpen_130 : decode cX4_bestOpen 130 = .ok (.iload 5, 2) := by decide +kernel
theorem dX4_bestOpen_132 : decode cX4_bestOpen 132 = .ok (.istore 5, 2) := by decide +kernel
theorem dX4_bestOpen_134 : decode cX4_bestOpen 134 = .ok (.iinc 6 1, 3) := by decide +kernel
theorem dX4_bestOpen_137 : decode cX4_bestOpen 137 = .ok (.goto (-114), 3) := by decide +kernel
theorem dX4_bestOpen_140 : decode cX4_bestOpen 140 = .ok (.iload 4, 2) := by decide +kernel
theorem dX4_bestOpen_142 : decode cX4_bestOpen 142 = .ok (.ireturn, 1) := by decide +kernel
theorem dX4_put_0 : decode cX4_put 0 = .ok (.iconst 0, 1) := by decide +kernel
theorem dX4_put_1 : decode cX4_put 1 = .ok (.istore_n 3, 1) := by decide +kernel
theorem dX4_put_2 : decode cX4_put 2 = .ok (.lload_n 1, 1) := by decide +kernel
theorem dX4_put_3 : decode cX4_put 3 = .ok (.lstore 4, 2) := by decide +kernel
theorem dX4_put_5 : decode cX4_put 5 = .ok (.iload_n 3, 1) := by decide +kernel
theorem dX4_put_6 : decode cX4_put 6 = .ok (.bipush 8, 2) := by decide +kernel
theorem dX4_put_8 : decode cX4_put 8 = .ok (.if_icmp .ge 48, 3) := by decide +kernel
theorem dX4_put_11 : decode cX4_put 11 = .ok (.lload 4, 2) := by decide +kernel
theorem dX4_put_13 : decode cX4_put 13 = .ok (.ldc2_w 179, 3) := by decide +kernel
theorem dX4_put_16 : decode cX4_put 16 = .ok (.land, 1) := by decide +kernel
theorem dX4_put_17 : decode cX4_put 17 = .ok (.lconst 0, 1) := by decide +kernel
theorem dX4_put_18 : decode cX4_put 18 = .ok (.lcmp, 1) := by decide +kernel
theorem dX4_put_19 : decode cX4_put 19 = .ok (.ifCond .eq 37, 3) := by decide +kernel
theorem dX4_put_22 : decode cX4_put 22 = .ok (.lload 4, 2) := by decide +kernel
theorem dX4_put_24 : decode cX4_put 24 = .ok (.ldc2_w 179, 3) := by decide +kernel
theorem dX4_put_27 : decode cX4_put 27 = .ok (.land, 1) := by decide +kernel
theorem dX4_put_28 : decode cX4_put 28 = .ok (.ldc2_w 181, 3) := by decide +kernel
theorem dX4_put_31 : decode cX4_put 31 = .ok (.ldc2_w 183, 3) := by decide +kernel
theorem dX4_put_34 : decode cX4_put 34 = .ok (.invokestatic 34, 3) := by decide +kernel
theorem dX4_put_37 : decode cX4_put 37 = .ok (.ifCond .ne 6, 3) := by decide +kernel
theorem dX4_put_40 : decode cX4_put 40 = .ok (.bipush (-2), 2) := by decide +kernel
theorem dX4_put_42 : decode cX4_put 42 = .ok (.ireturn, 1) := by decide +kernel
theorem dX4_put_43 : decode cX4_put 43 = .ok (.iinc 3 1, 3) := by decide +kernel
theorem dX4_put_46 : decode cX4_put 46 = .ok (.lload 4, 2) := by decide +kernel
theorem dX4_put_48 : decode cX4_put 48 = .ok (.bipush 8, 2) := by decide +kernel
theorem dX4_put_50 : decode cX4_put 50 = .ok (.lushr, 1) := by decide +kernel
theorem dX4_put_51 : decode cX4_put 51 = .ok (.lstore 4, 2) := by decide +kernel
theorem dX4_put_53 : decode cX4_put 53 = .ok (.goto (-48), 3) := by decide +kernel
theorem dX4_put_56 : decode cX4_put 56 = .ok (.iload_n 3, 1) := by decide +kernel
theorem dX4_put_57 : decode cX4_put 57 = .ok (.ifCond .eq 10, 3) := by decide +kernel
theorem dX4_put_60 : decode cX4_put 60 = .ok (.lload 4, 2) := by decide +kernel
theorem dX4_put_62 : decode cX4_put 62 = .ok (.lconst 0, 1) := by decide +kernel
theorem dX4_put_63 : decode cX4_put 63 = .ok (.lcmp, 1) := by decide +kernel
theorem dX4_put_64 : decode cX4_put 64 = .ok (.ifCond .eq 6, 3) := by decide +kernel
theorem dX4_put_67 : decode cX4_put 67 = .ok (.bipush (-2), 2) := by decide +kernel
theorem dX4_put_69 : decode cX4_put 69 = .ok (.ireturn, 1) := by decide +kernel
theorem dX4_put_70 : decode cX4_put 70 = .ok (.aload_n 0, 1) := by decide +kernel
theorem dX4_put_71 : decode cX4_put 71 = .ok (.getfield 170, 3) := by decide +kernel
theorem dX4_put_74 : decode cX4_put 74 = .ok (.iload_n 3, 1) := by decide +kernel
theorem dX4_put_75 : decode cX4_put 75 = .ok (.iadd, 1) := by decide +kernel
theorem dX4_put_76 : decode cX4_put 76 = .ok (.bipush 80, 2) := by decide +kernel
theorem dX4_put_78 : decode cX4_put 78 = .ok (.if_icmp .le 6, 3) := by decide +kernel
theorem dX4_put_81 : decode cX4_put 81 = .ok (.bipush (-4), 2) := by decide +kernel
theorem dX4_put_83 : decode cX4_put 83 = .ok (.ireturn, 1) := by decide +kernel
theorem dX4_put_84 : decode cX4_put 84 = .ok (.iload_n 3, 1) := by decide +kernel
theorem dX4_put_85 : decode cX4_put 85 = .ok (.iconst 1, 1) := by decide +kernel
theorem dX4_put_86 : decode cX4_put 86 = .ok (.isub, 1) := by decide +kernel
theorem dX4_put_87 : decode cX4_put 87 = .ok (.istore 6, 2) := by decide +kernel
theorem dX4_put_89 : decode cX4_put 89 = .ok (.iload 6, 2) := by decide +kernel
theorem dX4_put_91 : decode cX4_put 91 = .ok (.ifCond .lt 40, 3) := by decide +kernel
theorem dX4_put_94 : decode cX4_put 94 = .ok (.aload_n 0, 1) := by decide +kernel
theorem dX4_put_95 : decode cX4_put 95 = .ok (.getfield 26, 3) := by decide +kernel
theorem dX4_put_98 : decode cX4_put 98 = .ok (.aload_n 0, 1) := by decide +kernel
theorem dX4_put_99 : decode cX4_put 99 = .ok (.getfield 170, 3) := by decide +kernel
theorem dX4_put_102 : decode cX4_put 102 = .ok (.lload_n 1, 1) := by decide +kernel
theorem dX4_put_103 : decode cX4_put 103 = .ok (.bipush 8, 2) := by decide +kernel
theorem dX4_put_105 : decode cX4_put 105 = .ok (.iload 6, 2) := by decide +kernel
theorem dX4_put_107 : decode cX4_put 107 = .ok (.imul, 1) := by decide +kernel
theorem dX4_put_108 : decode cX4_put 108 = .ok (.lushr, 1) := by decide +kernel
theorem dX4_put_109 : decode cX4_put 109 = .ok (.ldc2_w 179, 3) := by decide +kernel
theorem dX4_put_112 : decode cX4_put 112 = .ok (.land, 1) := by decide +kernel
theorem dX4_put_113 : decode cX4_put 113 = .ok (.l2i, 1) := by decide +kernel
theorem dX4_put_114 : decode cX4_put 114 = .ok (.iastore, 1) := by decide +kernel
theorem dX4_put_115 : decode cX4_put 115 = .ok (.aload_n 0, 1) := by decide +kernel
theorem dX4_put_116 : decode cX4_put 116 = .ok (.dup, 1) := by decide +kernel
theorem dX4_put_117 : decode cX4_put 117 = .ok (.getfield 170, 3) := by decide +kernel
theorem dX4_put_120 : decode cX4_put 120 = .ok (.iconst 1, 1) := by decide +kernel
theorem dX4_put_121 : decode cX4_put 121 = .ok (.iadd, 1) := by decide +kernel
theorem dX4_put_122 : decode cX4_put 122 = .ok (.putfield 170, 3) := by decide +kernel
theorem dX4_put_125 : decode cX4_put 125 = .ok (.iinc 6 (-1), 3) := by decide +kernel
theorem dX4_put_128 : decode cX4_put 128 = .ok (.goto (-39), 3) := by decide +kernel
theorem dX4_put_131 : decode cX4_put 131 = .ok (.aload_n 0, 1) := by decide +kernel
theorem dX4_put_132 : decode cX4_put 132 = .ok (.getfield 170, 3) := by decide +kernel
theorem dX4_put_135 : decode cX4_put 135 = .ok (.ireturn, 1) := by decide +kernel
theorem dX4_wipe_0 : decode cX4_wipe 0 = .ok (.aload_n 0, 1) := by decide +kernel
theorem dX4_wipe_1 : decode cX4_wipe 1 = .ok (.getfield 170, 3) := by decide +kernel
theorem dX4_wipe_4 : decode cX4_wipe 4 = .ok (.istore_n 1, 1) := by decide +kernel
theorem dX4_wipe_5 : decode cX4_wipe 5 = .ok (.aload_n 0, 1) := by decide +kernel
theorem dX4_wipe_6 : decode cX4_wipe 6 = .ok (.iconst 0, 1) := by decide +kernel
theorem dX4_wipe_7 : decode cX4_wipe 7 = .ok (.putfield 170, 3) := by decide +kernel
theorem dX4_wipe_10 : decode cX4_wipe 10 = .ok (.iload_n 1, 1) := by decide +kernel
theorem dX4_wipe_11 : decode cX4_wipe 11 = .ok (.ireturn, 1) := by decide +kernel
theorem dX4_sign_0 : decode cX4_sign 0 = .ok (.aload_n 0, 1) := by decide +kernel
theorem dX4_sign_1 : decode cX4_sign 1 = .ok (.getfield 185, 3) := by decide +kernel
theorem dX4_sign_4 : decode cX4_sign 4 = .ok (.aload_n 0, 1) := by decide +kernel
theorem dX4_sign_5 : decode cX4_sign 5 = .ok (.getfield 170, 3) := by decide +kernel
theorem dX4_sign_8 : decode cX4_sign 8 = .ok (.if_icmp .ge 15, 3) := by decide +kernel
theorem dX4_sign_11 : decode cX4_sign 11 = .ok (.aload_n 0, 1) := by decide +kernel
theorem dX4_sign_12 : decode cX4_sign 12 = .ok (.getfield 26, 3) := by decide +kernel
theorem dX4_sign_15 : decode cX4_sign 15 = .ok (.aload_n 0, 1) := by decide +kernel
theorem dX4_sign_16 : decode cX4_sign 16 = .ok (.getfield 185, 3) := by decide +kernel
theorem dX4_sign_19 : decode cX4_sign 19 = .ok (.iaload, 1) := by decide +kernel
theorem dX4_sign_20 : decode cX4_sign 20 = .ok (.goto 5, 3) := by decide +kernel
theorem dX4_sign_23 : decode cX4_sign 23 = .ok (.bipush (-6), 2) := by decide +kernel
theorem dX4_sign_25 : decode cX4_sign 25 = .ok (.ireturn, 1) := by decide +kernel
theorem dX4_number_0 : decode cX4_number 0 = .ok (.aload_n 0, 1) := by decide +kernel
theorem dX4_number_1 : decode cX4_number 1 = .ok (.invokevirtual 188, 3) := by decide +kernel
theorem dX4_number_4 : decode cX4_number 4 = .ok (.i2l, 1) := by decide +kernel
theorem dX4_number_5 : decode cX4_number 5 = .ok (.ldc2_w 192, 3) := by decide +kernel
theorem dX4_number_8 : decode cX4_number 8 = .ok (.ldc2_w 194, 3) := by decide +kernel
theorem dX4_number_11 : decode cX4_number 11 = .ok (.invokestatic 34, 3) := by decide +kernel
theorem dX4_number_14 : decode cX4_number 14 = .ok (.ifCond .ne 6, 3) := by decide +kernel
theorem dX4_number_17 : decode cX4_number 17 = .ok (.bipush (-6), 2) := by decide +kernel
theorem dX4_number_19 : decode cX4_number 19 = .ok (.ireturn, 1) := by decide +kernel
theorem dX4_number_20 : decode cX4_number 20 = .ok (.aload_n 0, 1) := by decide +kernel
theorem dX4_number_21 : decode cX4_number 21 = .ok (.invokevirtual 188, 3) := by decide +kernel
theorem dX4_number_24 : decode cX4_number 24 = .ok (.bipush 48, 2) := by decide +kernel
theorem dX4_number_26 : decode cX4_number 26 = .ok (.isub, 1) := by decide +kernel
theorem dX4_number_27 : decode cX4_number 27 = .ok (.istore_n 1, 1) := by decide +kernel
theorem dX4_number_28 : decode cX4_number 28 = .ok (.aload_n 0, 1) := by decide +kernel
theorem dX4_number_29 : decode cX4_number 29 = .ok (.dup, 1) := by decide +kernel
theorem dX4_number_30 : decode cX4_number 30 = .ok (.getfield 185, 3) := by decide +kernel
theorem dX4_number_33 : decode cX4_number 33 = .ok (.iconst 1, 1) := by decide +kernel
theorem dX4_number_34 : decode cX4_number 34 = .ok (.iadd, 1) := by decide +kernel
theorem dX4_number_35 : decode cX4_number 35 = .ok (.putfield 185, 3) := by decide +kernel
theorem dX4_number_38 : decode cX4_number 38 = .ok (.iload_n 1, 1) := by decide +kernel
theorem dX4_number_39 : decode cX4_number 39 = .ok (.ifCond .ne 27, 3) := by decide +kernel
theorem dX4_number_42 : decode cX4_number 42 = .ok (.aload_n 0, 1) := by decide +kernel
theorem dX4_number_43 : decode cX4_number 43 = .ok (.invokevirtual 188, 3) := by decide +kernel
theorem dX4_number_46 : decode cX4_number 46 = .ok (.i2l, 1) := by decide +kernel
theorem dX4_number_47 : decode cX4_number 47 = .ok (.ldc2_w 192, 3) := by decide +kernel
theorem dX4_number_50 : decode cX4_number 50 = .ok (.ldc2_w 194, 3) := by decide +kernel
theorem dX4_number_53 : decode cX4_number 53 = .ok (.invokestatic 34, 3) := by decide +kernel
theorem dX4_number_56 : decode cX4_number 56 = .ok (.ifCond .eq 8, 3) := by decide +kernel
theorem dX4_number_59 : decode cX4_number 59 = .ok (.bipush (-6), 2) := by decide +kernel
theorem dX4_number_61 : decode cX4_number 61 = .ok (.goto 4, 3) := by decide +kernel
theorem dX4_number_64 : decode cX4_number 64 = .ok (.iconst 0, 1) := by decide +kernel
theorem dX4_number_65 : decode cX4_number 65 = .ok (.ireturn, 1) := by decide +kernel
theorem dX4_number_66 : decode cX4_number 66 = .ok (.aload_n 0, 1) := by decide +kernel
theorem dX4_number_67 : decode cX4_number 67 = .ok (.invokevirtual 188, 3) := by decide +kernel
theorem dX4_number_70 : decode cX4_number 70 = .ok (.i2l, 1) := by decide +kernel
theorem dX4_number_71 : decode cX4_number 71 = .ok (.ldc2_w 192, 3) := by decide +kernel
theorem dX4_number_74 : decode cX4_number 74 = .ok (.ldc2_w 194, 3) := by decide +kernel
theorem dX4_number_77 : decode cX4_number 77 = .ok (.invokestatic 34, 3) := by decide +kernel
theorem dX4_number_80 : decode cX4_number 80 = .ok (.ifCond .eq 50, 3) := by decide +kernel
theorem dX4_number_83 : decode cX4_number 83 = .ok (.bipush 10, 2) := by decide +kernel
theorem dX4_number_85 : decode cX4_number 85 = .ok (.iload_n 1, 1) := by decide +kernel
theorem dX4_number_86 : decode cX4_number 86 = .ok (.imul, 1) := by decide +kernel
theorem dX4_number_87 : decode cX4_number 87 = .ok (.aload_n 0, 1) := by decide +kernel
theorem dX4_number_88 : decode cX4_number 88 = .ok (.invokevirtual 188, 3) := by decide +kernel
theorem dX4_number_91 : decode cX4_number 91 = .ok (.iadd, 1) := by decide +kernel
theorem dX4_number_92 : decode cX4_number 92 = .ok (.bipush 48, 2) := by decide +kernel
theorem dX4_number_94 : decode cX4_number 94 = .ok (.isub, 1) := by decide +kernel
theorem dX4_number_95 : decode cX4_number 95 = .ok (.sipush 3650, 3) := by decide +kernel
theorem dX4_number_98 : decode cX4_number 98 = .ok (.if_icmp .lt 6, 3) := by decide +kernel
theorem dX4_number_101 : decode cX4_number 101 = .ok (.bipush (-6), 2) := by decide +kernel
theorem dX4_number_103 : decode cX4_number 103 = .ok (.ireturn, 1) := by decide +kernel
theorem dX4_number_104 : decode cX4_number 104 = .ok (.bipush 10, 2) := by decide +kernel
theorem dX4_number_106 : decode cX4_number 106 = .ok (.iload_n 1, 1) := by decide +kernel
theorem dX4_number_107 : decode cX4_number 107 = .ok (.imul, 1) := by decide +kernel
theorem dX4_number_108 : decode cX4_number 108 = .ok (.aload_n 0, 1) := by decide +kernel
theorem dX4_number_109 : decode cX4_number 109 = .ok (.invokevirtual 188, 3) := by decide +kernel
theorem dX4_number_112 : decode cX4_number 112 = .ok (.iadd, 1) := by decide +kernel
theorem dX4_number_113 : decode cX4_number 113 = .ok (.bipush 48, 2) := by decide +kernel
theorem dX4_number_115 : decode cX4_number 115 = .ok (.isub, 1) := by decide +kernel
theorem dX4_number_116 : decode cX4_number 116 = .ok (.istore_n 1, 1) := by decide +kernel
theorem dX4_number_117 : decode cX4_number 117 = .ok (.aload_n 0, 1) := by decide +kernel
theorem dX4_number_118 : decode cX4_number 118 = .ok (.dup, 1) := by decide +kernel
theorem dX4_number_119 : decode cX4_number 119 = .ok (.getfield 185, 3) := by decide +kernel
theorem dX4_number_122 : decode cX4_number 122 = .ok (.iconst 1, 1) := by decide +kernel
theorem dX4_number_123 : decode cX4_number 123 = .ok (.iadd, 1) := by decide +kernel
theorem dX4_number_124 : decode cX4_number 124 = .ok (.putfield 185, 3) := by decide +kernel
theorem dX4_number_127 : decode cX4_number 127 = .ok (.goto (-61), 3) := by decide +kernel
theorem dX4_number_130 : decode cX4_number 130 = .ok (.iload_n 1, 1) := by decide +kernel
theorem dX4_number_131 : decode cX4_number 131 = .ok (.ireturn, 1) := by decide +kernel
theorem dX4_readRanges_0 : decode cX4_readRanges 0 = .ok (.iconst 1, 1) := by decide +kernel
theorem dX4_readRanges_1 : decode cX4_readRanges 1 = .ok (.istore_n 1, 1) := by decide +kernel
theorem dX4_readRanges_2 : decode cX4_readRanges 2 = .ok (.iload_n 1, 1) := by decide +kernel
theorem dX4_readRanges_3 : decode cX4_readRanges 3 = .ok (.ifCond .eq 80, 3) := by decide +kernel
theorem dX4_readRanges_6 : decode cX4_readRanges 6 = .ok (.aload_n 0, 1) := by decide +kernel
theorem dX4_readRanges_7 : decode cX4_readRanges 7 = .ok (.invokevirtual 196, 3) := by decide +kernel
theorem dX4_readRanges_10 : decode cX4_readRanges 10 = .ok (.bipush (-6), 2) := by decide +kernel
theorem dX4_readRanges_12 : decode cX4_readRanges 12 = .ok (.if_icmp .ne 5, 3) := by decide +kernel
theorem dX4_readRanges_15 : decode cX4_readRanges 15 = .ok (.iconst 0, 1) := by decide +kernel
theorem dX4_readRanges_16 : decode cX4_readRanges 16 = .ok (.ireturn, 1) := by decide +kernel
theorem dX4_readRanges_17 : decode cX4_readRanges 17 = .ok (.aload_n 0, 1) := by decide +kernel
theorem dX4_readRanges_18 : decode cX4_readRanges 18 = .ok (.invokevirtual 188, 3) := by decide +kernel
theorem dX4_readRanges_21 : decode cX4_readRanges 21 = .ok (.bipush 45, 2) := by decide +kernel
theorem dX4_readRanges_23 : decode cX4_readRanges 23 = .ok (.if_icmp .ne 24, 3) := by decide +kernel
theorem dX4_readRanges_26 : decode cX4_readRanges 26 = .ok (.aload_n 0, 1) := by decide +kernel
theorem dX4_readRanges_27 : decode cX4_readRanges 27 = .ok (.dup, 1) := by decide +kernel
theorem dX4_readRanges_28 : decode cX4_readRanges 28 = .ok (.getfield 185, 3) := by decide +kernel
theorem dX4_readRanges_31 : decode cX4_readRanges 31 = .ok (.iconst 1, 1) := by decide +kernel
theorem dX4_readRanges_32 : decode cX4_readRanges 32 = .ok (.iadd, 1) := by decide +kernel
theorem dX4_readRanges_33 : decode cX4_readRanges 33 = .ok (.putfield 185, 3) := by decide +kernel
theorem dX4_readRanges_36 : decode cX4_readRanges 36 = .ok (.aload_n 0, 1) := by decide +kernel
theorem dX4_readRanges_37 : decode cX4_readRanges 37 = .ok (.invokevirtual 196, 3) := by decide +kernel
theorem dX4_readRanges_40 : decode cX4_readRanges 40 = .ok (.bipush (-6), 2) := by decide +kernel
theorem dX4_readRanges_42 : decode cX4_readRanges 42 = .ok (.if_icmp .ne 5, 3) := by decide +kernel
theorem dX4_readRanges_45 : decode cX4_readRanges 45 = .ok (.iconst 0, 1) := by decide +kernel
theorem dX4_readRanges_46 : decode cX4_readRanges 46 = .ok (.ireturn, 1) := by decide +kernel
theorem dX4_readRanges_47 : decode cX4_readRanges 47 = .ok (.aload_n 0, 1) := by decide +kernel
theorem dX4_readRanges_48 : decode cX4_readRanges 48 = .ok (.invokevirtual 188, 3) := by decide +kernel
theorem dX4_readRanges_51 : decode cX4_readRanges 51 = .ok (.bipush 44, 2) := by decide +kernel
theorem dX4_readRanges_53 : decode cX4_readRanges 53 = .ok (.if_icmp .ne 7, 3) := by decide +kernel
theorem dX4_readRanges_56 : decode cX4_readRanges 56 = .ok (.iconst 1, 1) := by decide +kernel
theorem dX4_readRanges_57 : decode cX4_readRanges 57 = .ok (.goto 4, 3) := by decide +kernel
theorem dX4_readRanges_60 : decode cX4_readRanges 60 = .ok (.iconst 0, 1) := by decide +kernel
theorem dX4_readRanges_61 : decode cX4_readRanges 61 = .ok (.istore_n 1, 1) := by decide +kernel
theorem dX4_readRanges_62 : decode cX4_readRanges 62 = .ok (.aload_n 0, 1) := by decide +kernel
theorem dX4_readRanges_63 : decode cX4_readRanges 63 = .ok (.dup, 1) := by decide +kernel
theorem dX4_readRanges_64 : decode cX4_readRanges 64 = .ok (.getfield 185, 3) := by decide +kernel
theorem dX4_readRanges_67 : decode cX4_readRanges 67 = .ok (.iload_n 1, 1) := by decide +kernel
theorem dX4_readRanges_68 : decode cX4_readRanges 68 = .ok (.ifCond .eq 7, 3) := by decide +kernel
theorem dX4_readRanges_71 : decode cX4_readRanges 71 = .ok (.iconst 1, 1) := by decide +kernel
theorem dX4_readRanges_72 : decode cX4_readRanges 72 = .ok (.goto 4, 3) := by decide +kernel
theorem dX4_readRanges_75 : decode cX4_readRanges 75 = .ok (.iconst 0, 1) := by decide +kernel
theorem dX4_readRanges_76 : decode cX4_readRanges 76 = .ok (.iadd, 1) := by decide +kernel
theorem dX4_readRanges_77 : decode cX4_readRanges 77 = .ok (.putfield 185, 3) := by decide +kernel
theorem dX4_readRanges_80 : decode cX4_readRanges 80 = .ok (.goto (-78), 3) := by decide +kernel
theorem dX4_readRanges_83 : decode cX4_readRanges 83 = .ok (.iconst 1, 1) := by decide +kernel
theorem dX4_readRanges_84 : decode cX4_readRanges 84 = .ok (.ireturn, 1) := by decide +kernel
theorem dX4_readOrder_0 : decode cX4_readOrder 0 = .ok (.aload_n 0, 1) := by decide +kernel
theorem dX4_readOrder_1 : decode cX4_readOrder 1 = .ok (.invokevirtual 188, 3) := by decide +kernel
theorem dX4_readOrder_4 : decode cX4_readOrder 4 = .ok (.istore_n 1, 1) := by decide +kernel
theorem dX4_readOrder_5 : decode cX4_readOrder 5 = .ok (.iload_n 1, 1) := by decide +kernel
theorem dX4_readOrder_6 : decode cX4_readOrder 6 = .ok (.bipush 112, 2) := by decide +kernel
theorem dX4_readOrder_8 : decode cX4_readOrder 8 = .ok (.if_icmp .ne 28, 3) := by decide +kernel
theorem dX4_readOrder_11 : decode cX4_readOrder 11 = .ok (.aload_n 0, 1) := by decide +kernel
theorem dX4_readOrder_12 : decode cX4_readOrder 12 = .ok (.dup, 1) := by decide +kernel
theorem dX4_readOrder_13 : decode cX4_readOrder 13 = .ok (.getfield 185, 3) := by decide +kernel
theorem dX4_readOrder_16 : decode cX4_readOrder 16 = .ok (.iconst 1, 1) := by decide +kernel
theorem dX4_readOrder_17 : decode cX4_readOrder 17 = .ok (.iadd, 1) := by decide +kernel
theorem dX4_readOrder_18 : decode cX4_readOrder 18 = .ok (.putfield 185, 3) := by decide +kernel
theorem dX4_readOrder_21 : decode cX4_readOrder 21 = .ok (.aload_n 0, 1) := by decide +kernel
theorem dX4_readOrder_22 : decode cX4_readOrder 22 = .ok (.invokevirtual 196, 3) := by decide +kernel
theorem dX4_readOrder_25 : decode cX4_readOrder 25 = .ok (.bipush (-6), 2) := by decide +kernel
theorem dX4_readOrder_27 : decode cX4_readOrder 27 = .ok (.if_icmp .eq 7, 3) := by decide +kernel
theorem dX4_readOrder_30 : decode cX4_readOrder 30 = .ok (.iconst 1, 1) := by decide +kernel
theorem dX4_readOrder_31 : decode cX4_readOrder 31 = .ok (.goto 4, 3) := by decide +kernel
theorem dX4_readOrder_34 : decode cX4_readOrder 34 = .ok (.iconst 0, 1) := by decide +kernel
theorem dX4_readOrder_35 : decode cX4_readOrder 35 = .ok (.ireturn, 1) := by decide +kernel
theorem dX4_readOrder_36 : decode cX4_readOrder 36 = .ok (.iload_n 1, 1) := by decide +kernel
theorem dX4_readOrder_37 : decode cX4_readOrder 37 = .ok (.bipush 109, 2) := by decide +kernel
theorem dX4_readOrder_39 : decode cX4_readOrder 39 = .ok (.if_icmp .eq 11, 3) := by decide +kernel
theorem dX4_readOrder_42 : decode cX4_readOrder 42 = .ok (.iload_n 1, 1) := by decide +kernel
theorem dX4_readOrder_43 : decode cX4_readOrder 43 = .ok (.bipush 99, 2) := by decide +kernel
theorem dX4_readOrder_45 : decode cX4_readOrder 45 = .ok (.if_icmp .eq 5, 3) := by decide +kernel
theorem dX4_readOrder_48 : decode cX4_readOrder 48 = .ok (.iconst 0, 1) := by decide +kernel
theorem dX4_readOrder_49 : decode cX4_readOrder 49 = .ok (.ireturn, 1) := by decide +kernel
theorem dX4_readOrder_50 : decode cX4_readOrder 50 = .ok (.aload_n 0, 1) := by decide +kernel
theorem dX4_readOrder_51 : decode cX4_readOrder 51 = .ok (.dup, 1) := by decide +kernel
theorem dX4_readOrder_52 : decode cX4_readOrder 52 = .ok (.getfield 185, 3) := by decide +kernel
theorem dX4_readOrder_55 : decode cX4_readOrder 55 = .ok (.iconst 1, 1) := by decide +kernel
theorem dX4_readOrder_56 : decode cX4_readOrder 56 = .ok (.iadd, 1) := by decide +kernel
theorem dX4_readOrder_57 : decode cX4_readOrder 57 = .ok (.putfield 185, 3) := by decide +kernel
theorem dX4_readOrder_60 : decode cX4_readOrder 60 = .ok (.aload_n 0, 1) := by decide +kernel
theorem dX4_readOrder_61 : decode cX4_readOrder 61 = .ok (.invokevirtual 188, 3) := by decide +kernel
theorem dX4_readOrder_64 : decode cX4_readOrder 64 = .ok (.i2l, 1) := by decide +kernel
theorem dX4_readOrder_65 : decode cX4_readOrder 65 = .ok (.ldc2_w 199, 3) := by decide +kernel
theorem dX4_readOrder_68 : decode cX4_readOrder 68 = .ok (.ldc2_w 201, 3) := by decide +kernel
theorem dX4_readOrder_71 : decode cX4_readOrder 71 = .ok (.invokestatic 34, 3) := by decide +kernel
theorem dX4_readOrder_74 : decode cX4_readOrder 74 = .ok (.ifCond .ne 5, 3) := by decide +kernel
theorem dX4_readOrder_77 : decode cX4_readOrder 77 = .ok (.iconst 0, 1) := by decide +kernel
theorem dX4_readOrder_78 : decode cX4_readOrder 78 = .ok (.ireturn, 1) := by decide +kernel
theorem dX4_readOrder_79 : decode cX4_readOrder 79 = .ok (.aload_n 0, 1) := by decide +kernel
theorem dX4_readOrder_80 : decode cX4_readOrder 80 = .ok (.dup, 1) := by decide +kernel
theorem dX4_readOrder_81 : decode cX4_readOrder 81 = .ok (.getfield 185, 3) := by decide +kernel
theorem dX4_readOrder_84 : decode cX4_readOrder 84 = .ok (.iconst 1, 1) := by decide +kernel
theorem dX4_readOrder_85 : decode cX4_readOrder 85 = .ok (.iadd, 1) := by decide +kernel
theorem dX4_readOrder_86 : decode cX4_readOrder 86 = .ok (.putfield 185, 3) := by decide +kernel
theorem dX4_readOrder_89 : decode cX4_readOrder 89 = .ok (.aload_n 0, 1) := by decide +kernel
theorem dX4_readOrder_90 : decode cX4_readOrder 90 = .ok (.invokevirtual 188, 3) := by decide +kernel
theorem dX4_readOrder_93 : decode cX4_readOrder 93 = .ok (.bipush 58, 2) := by decide +kernel
theorem dX4_readOrder_95 : decode cX4_readOrder 95 = .ok (.if_icmp .eq 5, 3) := by decide +kernel
theorem dX4_readOrder_98 : decode cX4_readOrder 98 = .ok (.iconst 0, 1) := by decide +kernel
theorem dX4_readOrder_99 : decode cX4_readOrder 99 = .ok (.ireturn, 1) := by decide +kernel
theorem dX4_readOrder_100 : decode cX4_readOrder 100 = .ok (.aload_n 0, 1) := by decide +kernel
theorem dX4_readOrder_101 : decode cX4_readOrder 101 = .ok (.dup, 1) := by decide +kernel
theorem dX4_readOrder_102 : decode cX4_readOrder 102 = .ok (.getfield 185, 3) := by decide +kernel
theorem dX4_readOrder_105 : decode cX4_readOrder 105 = .ok (.iconst 1, 1) := by decide +kernel
theorem dX4_readOrder_106 : decode cX4_readOrder 106 = .ok (.iadd, 1) := by decide +kernel
theorem dX4_readOrder_107 : decode cX4_readOrder 107 = .ok (.putfield 185, 3) := by decide +kernel
theorem dX4_readOrder_110 : decode cX4_readOrder 110 = .ok (.aload_n 0, 1) := by decide +kernel
theorem dX4_readOrder_111 : decode cX4_readOrder 111 = .ok (.invokevirtual 203, 3) := by decide +kernel
theorem dX4_readOrder_114 : decode cX4_readOrder 114 = .ok (.ireturn, 1) := by decide +kernel
theorem dX4_fault_0 : decode cX4_fault 0 = .ok (.aload_n 0, 1) := by decide +kernel
theorem dX4_fault_1 : decode cX4_fault 1 = .ok (.iconst 0, 1) := by decide +kernel
theorem dX4_fault_2 : decode cX4_fault 2 = .ok (.putfield 185, 3) := by decide +kernel
theorem dX4_fault_5 : decode cX4_fault 5 = .ok (.iconst 1, 1) := by decide +kernel
theorem dX4_fault_6 : decode cX4_fault 6 = .ok (.istore_n 1, 1) := by decide +kernel
theorem dX4_fault_7 : decode cX4_fault 7 = .ok (.iload_n 1, 1) := by decide +kernel
theorem dX4_fault_8 : decode cX4_fault 8 = .ok (.ifCond .eq 51, 3) := by decide +kernel
theorem dX4_fault_11 : decode cX4_fault 11 = .ok (.aload_n 0, 1) := by decide +kernel
theorem dX4_fault_12 : decode cX4_fault 12 = .ok (.invokevirtual 207, 3) := by decide +kernel
theorem dX4_fault_15 : decode cX4_fault 15 = .ok (.ifCond .ne 8, 3) := by decide +kernel
theorem dX4_fault_18 : decode cX4_fault 18 = .ok (.aload_n 0, 1) := by decide +kernel
theorem dX4_fault_19 : decode cX4_fault 19 = .ok (.getfield 185, 3) := by decide +kernel
theorem dX4_fault_22 : decode cX4_fault 22 = .ok (.ireturn, 1) := by decide +kernel
theorem dX4_fault_23 : decode cX4_fault 23 = .ok (.aload_n 0, 1) := by decide +kernel
theorem dX4_fault_24 : decode cX4_fault 24 = .ok (.invokevirtual 188, 3) := by decide +kernel
theorem dX4_fault_27 : decode cX4_fault 27 = .ok (.bipush 59, 2) := by decide +kernel
theorem dX4_fault_29 : decode cX4_fault 29 = .ok (.if_icmp .ne 7, 3) := by decide +kernel
theorem dX4_fault_32 : decode cX4_fault 32 = .ok (.iconst 1, 1) := by decide +kernel
theorem dX4_fault_33 : decode cX4_fault 33 = .ok (.goto 4, 3) := by decide +kernel
theorem dX4_fault_36 : decode cX4_fault 36 = .ok (.iconst 0, 1) := by decide +kernel
theorem dX4_fault_37 : decode cX4_fault 37 = .ok (.istore_n 1, 1) := by decide +kernel
theorem dX4_fault_38 : decode cX4_fault 38 = .ok (.aload_n 0, 1) := by decide +kernel
theorem dX4_fault_39 : decode cX4_fault 39 = .ok (.dup, 1) := by decide +kernel
theorem dX4_fault_40 : decode cX4_fault 40 = .ok (.getfield 185, 3) := by decide +kernel
theorem dX4_fault_43 : decode cX4_fault 43 = .ok (.iload_n 1, 1) := by decide +kernel
theorem dX4_fault_44 : decode cX4_fault 44 = .ok (.ifCond .eq 7, 3) := by decide +kernel
theorem dX4_fault_47 : decode cX4_fault 47 = .ok (.iconst 1, 1) := by decide +kernel
theorem dX4_fault_48 : decode cX4_fault 48 = .ok (.goto 4, 3) := by decide +kernel
theorem dX4_fault_51 : decode cX4_fault 51 = .ok (.iconst 0, 1) := by decide +kernel
theorem dX4_fault_52 : decode cX4_fault 52 = .ok (.iadd, 1) := by decide +kernel
theorem dX4_fault_53 : decode cX4_fault 53 = .ok (.putfield 185, 3) := by decide +kernel
theorem dX4_fault_56 : decode cX4_fault 56 = .ok (.goto (-49), 3) := by decide +kernel
theorem dX4_fault_59 : decode cX4_fault 59 = .ok (.aload_n 0, 1) := by decide +kernel
theorem dX4_fault_60 : decode cX4_fault 60 = .ok (.getfield 185, 3) := by decide +kernel
theorem dX4_fault_63 : decode cX4_fault 63 = .ok (.aload_n 0, 1) := by decide +kernel
theorem dX4_fault_64 : decode cX4_fault 64 = .ok (.getfield 170, 3) := by decide +kernel
theorem dX4_fault_67 : decode cX4_fault 67 = .ok (.if_icmp .ge 10, 3) := by decide +kernel
theorem dX4_fault_70 : decode cX4_fault 70 = .ok (.aload_n 0, 1) := by decide +kernel
theorem dX4_fault_71 : decode cX4_fault 71 = .ok (.getfield 185, 3) := by decide +kernel
theorem dX4_fault_74 : decode cX4_fault 74 = .ok (.goto 5, 3) := by decide +kernel
theorem dX4_fault_77 : decode cX4_fault 77 = .ok (.bipush (-6), 2) := by decide +kernel
theorem dX4_fault_79 : decode cX4_fault 79 = .ok (.ireturn, 1) := by decide +kernel
theorem dX4_doOrder_0 : decode cX4_doOrder 0 = .ok (.aload_n 0, 1) := by decide +kernel
theorem dX4_doOrder_1 : decode cX4_doOrder 1 = .ok (.invokevirtual 188, 3) := by decide +kernel
theorem dX4_doOrder_4 : decode cX4_doOrder 4 = .ok (.istore_n 1, 1) := by decide +kernel
theorem dX4_doOrder_5 : decode cX4_doOrder 5 = .ok (.aload_n 0, 1) := by decide +kernel
theorem dX4_doOrder_6 : decode cX4_doOrder 6 = .ok (.dup, 1) := by decide +kernel
theorem dX4_doOrder_7 : decode cX4_doOrder 7 = .ok (.getfield 185, 3) := by decide +kernel
theorem dX4_doOrder_10 : decode cX4_doOrder 10 = .ok (.iconst 1, 1) := by decide +kernel
theorem dX4_doOrder_11 : decode cX4_doOrder 11 = .ok (.iadd, 1) := by decide +kernel
theorem dX4_doOrder_12 : decode cX4_doOrder 12 = .ok (.putfield 185, 3) := by decide +kernel
theorem dX4_doOrder_15 : decode cX4_doOrder 15 = .ok (.iload_n 1, 1) := by decide +kernel
theorem dX4_doOrder_16 : decode cX4_doOrder 16 = .ok (.bipush 112, 2) := by decide +kernel
theorem dX4_doOrder_18 : decode cX4_doOrder 18 = .ok (.if_icmp .ne 42, 3) := by decide +kernel
theorem dX4_doOrder_21 : decode cX4_doOrder 21 = .ok (.aload_n 0, 1) := by decide +kernel
theorem dX4_doOrder_22 : decode cX4_doOrder 22 = .ok (.invokevirtual 196, 3) := by decide +kernel
theorem dX4_doOrder_25 : decode cX4_doOrder 25 = .ok (.istore_n 2, 1) := by decide +kernel
theorem dX4_doOrder_26 : decode cX4_doOrder 26 = .ok (.aload_n 0, 1) := by decide +kernel
theorem dX4_doOrder_27 : decode cX4_doOrder 27 = .ok (.aload_n 0, 1) := by decide +kernel
theorem dX4_doOrder_28 : decode cX4_doOrder 28 = .ok (.getfield 7, 3) := by decide +kernel
theorem dX4_doOrder_31 : decode cX4_doOrder 31 = .ok (.iload_n 2, 1) := by decide +kernel
theorem dX4_doOrder_32 : decode cX4_doOrder 32 = .ok (.invokevirtual 124, 3) := by decide +kernel
theorem dX4_doOrder_35 : decode cX4_doOrder 35 = .ok (.ifCond .ne 7, 3) := by decide +kernel
theorem dX4_doOrder_38 : decode cX4_doOrder 38 = .ok (.iconst 1, 1) := by decide +kernel
theorem dX4_doOrder_39 : decode cX4_doOrder 39 = .ok (.goto 4, 3) := by decide +kernel
theorem dX4_doOrder_42 : decode cX4_doOrder 42 = .ok (.iconst 0, 1) := by decide +kernel
theorem dX4_doOrder_43 : decode cX4_doOrder 43 = .ok (.istore_n 3, 1) := by decide +kernel
theorem dX4_doOrder_44 : decode cX4_doOrder 44 = .ok (.iload_n 3, 1) := by decide +kernel
theorem dX4_doOrder_45 : decode cX4_doOrder 45 = .ok (.ifCond .eq 13, 3) := by decide +kernel
theorem dX4_doOrder_48 : decode cX4_doOrder 48 = .ok (.aload_n 0, 1) := by decide +kernel
theorem dX4_doOrder_49 : decode cX4_doOrder 49 = .ok (.aload_n 0, 1) := by decide +kernel
theorem dX4_doOrder_50 : decode cX4_doOrder 50 = .ok (.getfield 7, 3) := by decide +kernel
theorem dX4_doOrder_53 : decode cX4_doOrder 53 = .ok (.iload_n 2, 1) := by decide +kernel
theorem dX4_doOrder_54 : decode cX4_doOrder 54 = .ok (.invokevirtual 127, 3) := by decide +kernel
theorem dX4_doOrder_57 : decode cX4_doOrder 57 = .ok (.pop, 1) := by decide +kernel
theorem dX4_doOrder_58 : decode cX4_doOrder 58 = .ok (.iload_n 3, 1) := by decide +kernel
theorem dX4_doOrder_59 : decode cX4_doOrder 59 = .ok (.ireturn, 1) := by decide +kernel
theorem dX4_doOrder_60 : decode cX4_doOrder 60 = .ok (.aload_n 0, 1) := by decide +kernel
theorem dX4_doOrder_61 : decode cX4_doOrder 61 = .ok (.invokevirtual 188, 3) := by decide +kernel
theorem dX4_doOrder_64 : decode cX4_doOrder 64 = .ok (.bipush 97, 2) := by decide +kernel
theorem dX4_doOrder_66 : decode cX4_doOrder 66 = .ok (.isub, 1) := by decide +kernel
theorem dX4_doOrder_67 : decode cX4_doOrder 67 = .ok (.istore_n 2, 1) := by decide +kernel
theorem dX4_doOrder_68 : decode cX4_doOrder 68 = .ok (.aload_n 0, 1) := by decide +kernel
theorem dX4_doOrder_69 : decode cX4_doOrder 69 = .ok (.dup, 1) := by decide +kernel
theorem dX4_doOrder_70 : decode cX4_doOrder 70 = .ok (.getfield 185, 3) := by decide +kernel
theorem dX4_doOrder_73 : decode cX4_doOrder 73 = .ok (.iconst 2, 1) := by decide +kernel
theorem dX4_doOrder_74 : decode cX4_doOrder 74 = .ok (.iadd, 1) := by decide +kernel
theorem dX4_doOrder_75 : decode cX4_doOrder 75 = .ok (.putfield 185, 3) := by decide +kernel
theorem dX4_doOrder_78 : decode cX4_doOrder 78 = .ok (.iconst 1, 1) := by decide +kernel
theorem dX4_doOrder_79 : decode cX4_doOrder 79 = .ok (.istore_n 3, 1) := by decide +kernel
theorem dX4_doOrder_80 : decode cX4_doOrder 80 = .ok (.iload_n 3, 1) := by decide +kernel
theorem dX4_doOrder_81 : decode cX4_doOrder 81 = .ok (.ifCond .eq 117, 3) := by decide +kernel
theorem dX4_doOrder_84 : decode cX4_doOrder 84 = .ok (.aload_n 0, 1) := by decide +kernel
theorem dX4_doOrder_85 : decode cX4_doOrder 85 = .ok (.invokevirtual 196, 3) := by decide +kernel
theorem dX4_doOrder_88 : decode cX4_doOrder 88 = .ok (.istore 4, 2) := by decide +kernel
theorem dX4_doOrder_90 : decode cX4_doOrder 90 = .ok (.iload 4, 2) := by decide +kernel
theorem dX4_doOrder_92 : decode cX4_doOrder 92 = .ok (.istore 5, 2) := by decide +kernel
theorem dX4_doOrder_94 : decode cX4_doOrder 94 = .ok (.aload_n 0, 1) := by decide +kernel
theorem dX4_doOrder_95 : decode cX4_doOrder 95 = .ok (.invokevirtual 188, 3) := by decide +kernel
theorem dX4_doOrder_98 : decode cX4_doOrder 98 = .ok (.bipush 45, 2) := by decide +kernel
theorem dX4_doOrder_100 : decode cX4_doOrder 100 = .ok (.if_icmp .ne 19, 3) := by decide +kernel
theorem dX4_doOrder_103 : decode cX4_doOrder 103 = .ok (.aload_n 0, 1) := by decide +kernel
theorem dX4_doOrder_104 : decode cX4_doOrder 104 = .ok (.dup, 1) := by decide +kernel
theorem dX4_doOrder_105 : decode cX4_doOrder 105 = .ok (.getfield 185, 3) := by decide +kernel
theorem dX4_doOrder_108 : decode cX4_doOrder 108 = .ok (.iconst 1, 1) := by decide +kernel
theorem dX4_doOrder_109 : decode cX4_doOrder 109 = .ok (.iadd, 1) := by decide +kernel
theorem dX4_doOrder_110 : decode cX4_doOrder 110 = .ok (.putfield 185, 3) := by decide +kernel
theorem dX4_doOrder_113 : decode cX4_doOrder 113 = .ok (.aload_n 0, 1) := by decide +kernel
theorem dX4_doOrder_114 : decode cX4_doOrder 114 = .ok (.invokevirtual 196, 3) := by decide +kernel
theorem dX4_doOrder_117 : decode cX4_doOrder 117 = .ok (.istore 5, 2) := by decide +kernel
theorem dX4_doOrder_119 : decode cX4_doOrder 119 = .ok (.aload_n 0, 1) := by decide +kernel
theorem dX4_doOrder_120 : decode cX4_doOrder 120 = .ok (.aload_n 0, 1) := by decide +kernel
theorem dX4_doOrder_121 : decode cX4_doOrder 121 = .ok (.getfield 7, 3) := by decide +kernel
theorem dX4_doOrder_124 : decode cX4_doOrder 124 = .ok (.iload_n 2, 1) := by decide +kernel
theorem dX4_doOrder_125 : decode cX4_doOrder 125 = .ok (.iload 4, 2) := by decide +kernel
theorem dX4_doOrder_127 : decode cX4_doOrder 127 = .ok (.iload 5, 2) := by decide +kernel
theorem dX4_doOrder_129 : decode cX4_doOrder 129 = .ok (.invokevirtual 145, 3) := by decide +kernel
theorem dX4_doOrder_132 : decode cX4_doOrder 132 = .ok (.ifCond .eq 5, 3) := by decide +kernel
theorem dX4_doOrder_135 : decode cX4_doOrder 135 = .ok (.iconst 0, 1) := by decide +kernel
theorem dX4_doOrder_136 : decode cX4_doOrder 136 = .ok (.ireturn, 1) := by decide +kernel
theorem dX4_doOrder_137 : decode cX4_doOrder 137 = .ok (.aload_n 0, 1) := by decide +kernel
theorem dX4_doOrder_138 : decode cX4_doOrder 138 = .ok (.aload_n 0, 1) := by decide +kernel
theorem dX4_doOrder_139 : decode cX4_doOrder 139 = .ok (.getfield 7, 3) := by decide +kernel
theorem dX4_doOrder_142 : decode cX4_doOrder 142 = .ok (.iload_n 2, 1) := by decide +kernel
theorem dX4_doOrder_143 : decode cX4_doOrder 143 = .ok (.iload 4, 2) := by decide +kernel
theorem dX4_doOrder_145 : decode cX4_doOrder 145 = .ok (.iload 5, 2) := by decide +kernel
theorem dX4_doOrder_147 : decode cX4_doOrder 147 = .ok (.iload_n 1, 1) := by decide +kernel
theorem dX4_doOrder_148 : decode cX4_doOrder 148 = .ok (.bipush 109, 2) := by decide +kernel
theorem dX4_doOrder_150 : decode cX4_doOrder 150 = .ok (.if_icmp .ne 7, 3) := by decide +kernel
theorem dX4_doOrder_153 : decode cX4_doOrder 153 = .ok (.iconst 1, 1) := by decide +kernel
theorem dX4_doOrder_154 : decode cX4_doOrder 154 = .ok (.goto 4, 3) := by decide +kernel
theorem dX4_doOrder_157 : decode cX4_doOrder 157 = .ok (.iconst 0, 1) := by decide +kernel
theorem dX4_doOrder_158 : decode cX4_doOrder 158 = .ok (.invokevirtual 148, 3) := by decide +kernel
theorem dX4_doOrder_161 : decode cX4_doOrder 161 = .ok (.pop, 1) := by decide +kernel
theorem dX4_doOrder_162 : decode cX4_doOrder 162 = .ok (.aload_n 0, 1) := by decide +kernel
theorem dX4_doOrder_163 : decode cX4_doOrder 163 = .ok (.invokevirtual 188, 3) := by decide +kernel
theorem dX4_doOrder_166 : decode cX4_doOrder 166 = .ok (.bipush 44, 2) := by decide +kernel
theorem dX4_doOrder_168 : decode cX4_doOrder 168 = .ok (.if_icmp .ne 7, 3) := by decide +kernel
theorem dX4_doOrder_171 : decode cX4_doOrder 171 = .ok (.iconst 1, 1) := by decide +kernel
theorem dX4_doOrder_172 : decode cX4_doOrder 172 = .ok (.goto 4, 3) := by decide +kernel
theorem dX4_doOrder_175 : decode cX4_doOrder 175 = .ok (.iconst 0, 1) := by decide +kernel
theorem dX4_doOrder_176 : decode cX4_doOrder 176 = .ok (.istore_n 3, 1) := by decide +kernel
theorem dX4_doOrder_177 : decode cX4_doOrder 177 = .ok (.aload_n 0, 1) := by decide +kernel
theorem dX4_doOrder_178 : decode cX4_doOrder 178 = .ok (.dup, 1) := by decide +kernel
theorem dX4_doOrder_179 : decode cX4_doOrder 179 = .ok (.getfield 185, 3) := by decide +kernel
theorem dX4_doOrder_182 : decode cX4_doOrder 182 = .ok (.iload_n 3, 1) := by decide +kernel
theorem dX4_doOrder_183 : decode cX4_doOrder 183 = .ok (.ifCond .eq 7, 3) := by decide +kernel
theorem dX4_doOrder_186 : decode cX4_doOrder 186 = .ok (.iconst 1, 1) := by decide +kernel
theorem dX4_doOrder_187 : decode cX4_doOrder 187 = .ok (.goto 4, 3) := by decide +kernel
theorem dX4_doOrder_190 : decode cX4_doOrder 190 = .ok (.iconst 0, 1) := by decide +kernel
theorem dX4_doOrder_191 : decode cX4_doOrder 191 = .ok (.iadd, 1) := by decide +kernel
theorem dX4_doOrder_192 : decode cX4_doOrder 192 = .ok (.putfield 185, 3) := by decide +kernel
theorem dX4_doOrder_195 : decode cX4_doOrder 195 = .ok (.goto (-115), 3) := by decide +kernel
theorem dX4_doOrder_198 : decode cX4_doOrder 198 = .ok (.iconst 1, 1) := by decide +kernel
theorem dX4_doOrder_199 : decode cX4_doOrder 199 = .ok (.ireturn, 1) := by decide +kernel
theorem dX4_carryOut_0 : decode cX4_carryOut 0 = .ok (.aload_n 0, 1) := by decide +kernel
theorem dX4_carryOut_1 : decode cX4_carryOut 1 = .ok (.invokevirtual 210, 3) := by decide +kernel
theorem dX4_carryOut_4 : decode cX4_carryOut 4 = .ok (.bipush (-6), 2) := by decide +kernel
theorem dX4_carryOut_6 : decode cX4_carryOut 6 = .ok (.if_icmp .eq 6, 3) := by decide +kernel
theorem dX4_carryOut_9 : decode cX4_carryOut 9 = .ok (.bipush (-3), 2) := by decide +kernel
theorem dX4_carryOut_11 : decode cX4_carryOut 11 = .ok (.ireturn, 1) := by decide +kernel
theorem dX4_carryOut_12 : decode cX4_carryOut 12 = .ok (.aload_n 0, 1) := by decide +kernel
theorem dX4_carryOut_13 : decode cX4_carryOut 13 = .ok (.invokevirtual 119, 3) := by decide +kernel
theorem dX4_carryOut_16 : decode cX4_carryOut 16 = .ok (.aload_n 0, 1) := by decide +kernel
theorem dX4_carryOut_17 : decode cX4_carryOut 17 = .ok (.iconst 0, 1) := by decide +kernel
theorem dX4_carryOut_18 : decode cX4_carryOut 18 = .ok (.putfield 185, 3) := by decide +kernel
theorem dX4_carryOut_21 : decode cX4_carryOut 21 = .ok (.iconst 0, 1) := by decide +kernel
theorem dX4_carryOut_22 : decode cX4_carryOut 22 = .ok (.istore_n 1, 1) := by decide +kernel
theorem dX4_carryOut_23 : decode cX4_carryOut 23 = .ok (.iconst 1, 1) := by decide +kernel
theorem dX4_carryOut_24 : decode cX4_carryOut 24 = .ok (.istore_n 2, 1) := by decide +kernel
theorem dX4_carryOut_25 : decode cX4_carryOut 25 = .ok (.iload_n 2, 1) := by decide +kernel
theorem dX4_carryOut_26 : decode cX4_carryOut 26 = .ok (.ifCond .eq 41, 3) := by decide +kernel
theorem dX4_carryOut_29 : decode cX4_carryOut 29 = .ok (.aload_n 0, 1) := by decide +kernel
theorem dX4_carryOut_30 : decode cX4_carryOut 30 = .ok (.invokevirtual 213, 3) := by decide +kernel
theorem dX4_carryOut_33 : decode cX4_carryOut 33 = .ok (.ifCond .eq 34, 3) := by decide +kernel
theorem dX4_carryOut_36 : decode cX4_carryOut 36 = .ok (.iinc 1 1, 3) := by decide +kernel
theorem dX4_carryOut_39 : decode cX4_carryOut 39 = .ok (.aload_n 0, 1) := by decide +kernel
theorem dX4_carryOut_40 : decode cX4_carryOut 40 = .ok (.invokevirtual 188, 3) := by decide +kernel
theorem dX4_carryOut_43 : decode cX4_carryOut 43 = .ok (.bipush 59, 2) := by decide +kernel
theorem dX4_carryOut_45 : decode cX4_carryOut 45 = .ok (.if_icmp .ne 7, 3) := by decide +kernel
theorem dX4_carryOut_48 : decode cX4_carryOut 48 = .ok (.iconst 1, 1) := by decide +kernel
theorem dX4_carryOut_49 : decode cX4_carryOut 49 = .ok (.goto 4, 3) := by decide +kernel
theorem dX4_carryOut_52 : decode cX4_carryOut 52 = .ok (.iconst 0, 1) := by decide +kernel
theorem dX4_carryOut_53 : decode cX4_carryOut 53 = .ok (.istore_n 2, 1) := by decide +kernel
theorem dX4_carryOut_54 : decode cX4_carryOut 54 = .ok (.aload_n 0, 1) := by decide +kernel
theorem dX4_carryOut_55 : decode cX4_carryOut 55 = .ok (.dup, 1) := by decide +kernel
theorem dX4_carryOut_56 : decode cX4_carryOut 56 = .ok (.getfield 185, 3) := by decide +kernel
theorem dX4_carryOut_59 : decode cX4_carryOut 59 = .ok (.iconst 1, 1) := by decide +kernel
theorem dX4_carryOut_60 : decode cX4_carryOut 60 = .ok (.iadd, 1) := by decide +kernel
theorem dX4_carryOut_61 : decode cX4_carryOut 61 = .ok (.putfield 185, 3) := by decide +kernel
theorem dX4_carryOut_64 : decode cX4_carryOut 64 = .ok (.goto (-39), 3) := by decide +kernel
theorem dX4_carryOut_67 : decode cX4_carryOut 67 = .ok (.aload_n 0, 1) := by decide +kernel
theorem dX4_carryOut_68 : decode cX4_carryOut 68 = .ok (.iconst 0, 1) := by decide +kernel
theorem dX4_carryOut_69 : decode cX4_carryOut 69 = .ok (.putfield 170, 3) := by decide +kernel
theorem dX4_carryOut_72 : decode cX4_carryOut 72 = .ok (.iload_n 1, 1) := by decide +kernel
theorem dX4_carryOut_73 : decode cX4_carryOut 73 = .ok (.ireturn, 1) := by decide +kernel
theorem dX4_undo_0 : decode cX4_undo 0 = .ok (.aload_n 0, 1) := by decide +kernel
theorem dX4_undo_1 : decode cX4_undo 1 = .ok (.getfield 107, 3) := by decide +kernel
theorem dX4_undo_4 : decode cX4_undo 4 = .ok (.ifCond .ne 6, 3) := by decide +kernel
theorem dX4_undo_7 : decode cX4_undo 7 = .ok (.bipush (-5), 2) := by decide +kernel
theorem dX4_undo_9 : decode cX4_undo 9 = .ok (.ireturn, 1) := by decide +kernel
theorem dX4_undo_10 : decode cX4_undo 10 = .ok (.aload_n 0, 1) := by decide +kernel
theorem dX4_undo_11 : decode cX4_undo 11 = .ok (.dup, 1) := by decide +kernel
theorem dX4_undo_12 : decode cX4_undo 12 = .ok (.getfield 107, 3) := by decide +kernel
theorem dX4_undo_15 : decode cX4_undo 15 = .ok (.iconst 1, 1) := by decide +kernel
theorem dX4_undo_16 : decode cX4_undo 16 = .ok (.isub, 1) := by decide +kernel
theorem dX4_undo_17 : decode cX4_undo 17 = .ok (.putfield 107, 3) := by decide +kernel
theorem dX4_undo_20 : decode cX4_undo 20 = .ok (.aload_n 0, 1) := by decide +kernel
theorem dX4_undo_21 : decode cX4_undo 21 = .ok (.getfield 16, 3) := by decide +kernel
theorem dX4_undo_24 : decode cX4_undo 24 = .ok (.sipush 2175, 3) := by decide +kernel
theorem dX4_undo_27 : decode cX4_undo 27 = .ok (.aload_n 0, 1) := by decide +kernel
theorem dX4_undo_28 : decode cX4_undo 28 = .ok (.getfield 107, 3) := by decide +kernel
theorem dX4_undo_31 : decode cX4_undo 31 = .ok (.imul, 1) := by decide +kernel
theorem dX4_undo_32 : decode cX4_undo 32 = .ok (.aload_n 0, 1) := by decide +kernel
theorem dX4_undo_33 : decode cX4_undo 33 = .ok (.getfield 7, 3) := by decide +kernel
theorem dX4_undo_36 : decode cX4_undo 36 = .ok (.iconst 0, 1) := by decide +kernel
theorem dX4_undo_37 : decode cX4_undo 37 = .ok (.invokestatic 111, 3) := by decide +kernel
theorem dX4_undo_40 : decode cX4_undo 40 = .ok (.aload_n 0, 1) := by decide +kernel
theorem dX4_undo_41 : decode cX4_undo 41 = .ok (.getfield 107, 3) := by decide +kernel
theorem dX4_undo_44 : decode cX4_undo 44 = .ok (.ireturn, 1) := by decide +kernel
theorem dX4_save_0 : decode cX4_save 0 = .ok (.iload_n 1, 1) := by decide +kernel
theorem dX4_save_1 : decode cX4_save 1 = .ok (.i2l, 1) := by decide +kernel
theorem dX4_save_2 : decode cX4_save 2 = .ok (.lconst 0, 1) := by decide +kernel
theorem dX4_save_3 : decode cX4_save 3 = .ok (.lconst 1, 1) := by decide +kernel
theorem dX4_save_4 : decode cX4_save 4 = .ok (.invokestatic 34, 3) := by decide +kernel
theorem dX4_save_7 : decode cX4_save 7 = .ok (.ifCond .ne 6, 3) := by decide +kernel
theorem dX4_save_10 : decode cX4_save 10 = .ok (.bipush (-2), 2) := by decide +kernel
theorem dX4_save_12 : decode cX4_save 12 = .ok (.ireturn, 1) := by decide +kernel
theorem dX4_save_13 : decode cX4_save 13 = .ok (.aload_n 0, 1) := by decide +kernel
theorem dX4_save_14 : decode cX4_save 14 = .ok (.getfield 7, 3) := by decide +kernel
theorem dX4_save_17 : decode cX4_save 17 = .ok (.iconst 0, 1) := by decide +kernel
theorem dX4_save_18 : decode cX4_save 18 = .ok (.aload_n 0, 1) := by decide +kernel
theorem dX4_save_19 : decode cX4_save 19 = .ok (.getfield 19, 3) := by decide +kernel
theorem dX4_save_22 : decode cX4_save 22 = .ok (.sipush 2175, 3) := by decide +kernel
theorem dX4_save_25 : decode cX4_save 25 = .ok (.iload_n 1, 1) := by decide +kernel
theorem dX4_save_26 : decode cX4_save 26 = .ok (.imul, 1) := by decide +kernel
theorem dX4_save_27 : decode cX4_save 27 = .ok (.invokestatic 111, 3) := by decide +kernel
theorem dX4_save_30 : decode cX4_save 30 = .ok (.aload_n 0, 1) := by decide +kernel
theorem dX4_save_31 : decode cX4_save 31 = .ok (.getfield 22, 3) := by decide +kernel
theorem dX4_save_34 : decode cX4_save 34 = .ok (.iload_n 1, 1) := by decide +kernel
theorem dX4_save_35 : decode cX4_save 35 = .ok (.iconst 1, 1) := by decide +kernel
theorem dX4_save_36 : decode cX4_save 36 = .ok (.bastore, 1) := by decide +kernel
theorem dX4_save_37 : decode cX4_save 37 = .ok (.aload_n 0, 1) := by decide +kernel
theorem dX4_save_38 : decode cX4_save 38 = .ok (.getfield 7, 3) := by decide +kernel
theorem dX4_save_41 : decode cX4_save 41 = .ok (.iconst 0, 1) := by decide +kernel
theorem dX4_save_42 : decode cX4_save 42 = .ok (.iaload, 1) := by decide +kernel
theorem dX4_save_43 : decode cX4_save 43 = .ok (.ireturn, 1) := by decide +kernel
theorem dX4_restore_0 : decode cX4_restore 0 = .ok (.iload_n 1, 1) := by decide +kernel
theorem dX4_restore_1 : decode cX4_restore 1 = .ok (.i2l, 1) := by decide +kernel
theorem dX4_restore_2 : decode cX4_restore 2 = .ok (.lconst 0, 1) := by decide +kernel
theorem dX4_restore_3 : decode cX4_restore 3 = .ok (.lconst 1, 1) := by decide +kernel
theorem dX4_restore_4 : decode cX4_restore 4 = .ok (.invokestatic 34, 3) := by decide +kernel
theorem dX4_restore_7 : decode cX4_restore 7 = .ok (.ifCond .ne 6, 3) := by decide +kernel
theorem dX4_restore_10 : decode cX4_restore 10 = .ok (.bipush (-2), 2) := by decide +kernel
theorem dX4_restore_12 : decode cX4_restore 12 = .ok (.ireturn, 1) := by decide +kernel
theorem dX4_restore_13 : decode cX4_restore 13 = .ok (.aload_n 0, 1) := by decide +kernel
theorem dX4_restore_14 : decode cX4_restore 14 = .ok (.getfield 22, 3) := by decide +kernel
theorem dX4_restore_17 : decode cX4_restore 17 = .ok (.iload_n 1, 1) := by decide +kernel
theorem dX4_restore_18 : decode cX4_restore 18 = .ok (.baload, 1) := by decide +kernel
theorem dX4_restore_19 : decode cX4_restore 19 = .ok (.ifCond .ne 6, 3) := by decide +kernel
theorem dX4_restore_22 : decode cX4_restore 22 = .ok (.bipush (-5), 2) := by decide +kernel
theorem dX4_restore_24 : decode cX4_restore 24 = .ok (.ireturn, 1) := by decide +kernel
theorem dX4_restore_25 : decode cX4_restore 25 = .ok (.aload_n 0, 1) := by decide +kernel
theorem dX4_restore_26 : decode cX4_restore 26 = .ok (.invokevirtual 119, 3) := by decide +kernel
theorem dX4_restore_29 : decode cX4_restore 29 = .ok (.aload_n 0, 1) := by decide +kernel
theorem dX4_restore_30 : decode cX4_restore 30 = .ok (.getfield 19, 3) := by decide +kernel
theorem dX4_restore_33 : decode cX4_restore 33 = .ok (.sipush 2175, 3) := by decide +kernel
theorem dX4_restore_36 : decode cX4_restore 36 = .ok (.iload_n 1, 1) := by decide +kernel
theorem dX4_restore_37 : decode cX4_restore 37 = .ok (.imul, 1) := by decide +kernel
theorem dX4_restore_38 : decode cX4_restore 38 = .ok (.aload_n 0, 1) := by decide +kernel
theorem dX4_restore_39 : decode cX4_restore 39 = .ok (.getfield 7, 3) := by decide +kernel
theorem dX4_restore_42 : decode cX4_restore 42 = .ok (.iconst 0, 1) := by decide +kernel
theorem dX4_restore_43 : decode cX4_restore 43 = .ok (.invokestatic 111, 3) := by decide +kernel
theorem dX4_restore_46 : decode cX4_restore 46 = .ok (.aload_n 0, 1) := by decide +kernel
theorem dX4_restore_47 : decode cX4_restore 47 = .ok (.getfield 7, 3) := by decide +kernel
theorem dX4_restore_50 : decode cX4_restore 50 = .ok (.iconst 0, 1) := by decide +kernel
theorem dX4_restore_51 : decode cX4_restore 51 = .ok (.iaload, 1) := by decide +kernel
theorem dX4_restore_52 : decode cX4_restore 52 = .ok (.ireturn, 1) := by decide +kernel
