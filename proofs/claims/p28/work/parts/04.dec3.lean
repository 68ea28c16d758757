theorem dX3_init_0 : decode cX3_init 0 = .ok (.aload_n 0, 1) := by decide +kernel
theorem dX3_init_1 : decode cX3_init 1 = .ok (.invokespecial 3, 3) := by decide +kernel
theorem dX3_init_4 : decode cX3_init 4 = .ok (.aload_n 0, 1) := by decide +kernel
theorem dX3_init_5 : decode cX3_init 5 = .ok (.new 9, 3) := by decide +kernel
theorem dX3_init_8 : decode cX3_init 8 = .ok (.dup, 1) := by decide +kernel
theorem dX3_init_9 : decode cX3_init 9 = .ok (.invokespecial 11, 3) := by decide +kernel
theorem dX3_init_12 : decode cX3_init 12 = .ok (.putfield 12, 3) := by decide +kernel
theorem dX3_init_15 : decode cX3_init 15 = .ok (.aload_n 0, 1) := by decide +kernel
theorem dX3_init_16 : decode cX3_init 16 = .ok (.new 9, 3) := by decide +kernel
theorem dX3_init_19 : decode cX3_init 19 = .ok (.dup, 1) := by decide +kernel
theorem dX3_init_20 : decode cX3_init 20 = .ok (.invokespecial 11, 3) := by decide +kernel
theorem dX3_init_23 : decode cX3_init 23 = .ok (.putfield 16, 3) := by decide +kernel
theorem dX3_init_26 : decode cX3_init 26 = .ok (.aload_n 0, 1) := by decide +kernel
theorem dX3_init_27 : decode cX3_init 27 = .ok (.bipush 6, 2) := by decide +kernel
theorem dX3_init_29 : decode cX3_init 29 = .ok (.anewarray 9, 3) := by decide +kernel
theorem dX3_init_32 : decode cX3_init 32 = .ok (.putfield 19, 3) := by decide +kernel
theorem dX3_init_35 : decode cX3_init 35 = .ok (.iconst 0, 1) := by decide +kernel
theorem dX3_init_36 : decode cX3_init 36 = .ok (.istore_n 1, 1) := by decide +kernel
theorem dX3_init_37 : decode cX3_init 37 = .ok (.iload_n 1, 1) := by decide +kernel
theorem dX3_init_38 : decode cX3_init 38 = .ok (.aload_n 0, 1) := by decide +kernel
theorem dX3_init_39 : decode cX3_init 39 = .ok (.getfield 19, 3) := by decide +kernel
theorem dX3_init_42 : decode cX3_init 42 = .ok (.arraylength, 1) := by decide +kernel
theorem dX3_init_43 : decode cX3_init 43 = .ok (.if_icmp .ge 22, 3) := by decide +kernel
theorem dX3_init_46 : decode cX3_init 46 = .ok (.aload_n 0, 1) := by decide +kernel
theorem dX3_init_47 : decode cX3_init 47 = .ok (.getfield 19, 3) := by decide +kernel
theorem dX3_init_50 : decode cX3_init 50 = .ok (.iload_n 1, 1) := by decide +kernel
theorem dX3_init_51 : decode cX3_init 51 = .ok (.new 9, 3) := by decide +kernel
theorem dX3_init_54 : decode cX3_init 54 = .ok (.dup, 1) := by decide +kernel
theorem dX3_init_55 : decode cX3_init 55 = .ok (.invokespecial 11, 3) := by decide +kernel
theorem dX3_init_58 : decode cX3_init 58 = .ok (.aastore, 1) := by decide +kernel
theorem dX3_init_59 : decode cX3_init 59 = .ok (.iinc 1 1, 3) := by decide +kernel
theorem dX3_init_62 : decode cX3_init 62 = .ok (.goto (-25), 3) := by decide +kernel
theorem dX3_init_65 : decode cX3_init 65 = .ok (.aload_n 0, 1) := by decide +kernel
theorem dX3_init_66 : decode cX3_init 66 = .ok (.iconst 2, 1) := by decide +kernel
theorem dX3_init_67 : decode cX3_init 67 = .ok (.anewarray 9, 3) := by decide +kernel
theorem dX3_init_70 : decode cX3_init 70 = .ok (.putfield 23, 3) := by decide +kernel
theorem dX3_init_73 : decode cX3_init 73 = .ok (.iconst 0, 1) := by decide +kernel
theorem dX3_init_74 : decode cX3_init 74 = .ok (.istore_n 1, 1) := by decide +kernel
theorem dX3_init_75 : decode cX3_init 75 = .ok (.iload_n 1, 1) := by decide +kernel
theorem dX3_init_76 : decode cX3_init 76 = .ok (.aload_n 0, 1) := by decide +kernel
theorem dX3_init_77 : decode cX3_init 77 = .ok (.getfield 23, 3) := by decide +kernel
theorem dX3_init_80 : decode cX3_init 80 = .ok (.arraylength, 1) := by decide +kernel
theorem dX3_init_81 : decode cX3_init 81 = .ok (.if_icmp .ge 22, 3) := by decide +kernel
theorem dX3_init_84 : decode cX3_init 84 = .ok (.aload_n 0, 1) := by decide +kernel
theorem dX3_init_85 : decode cX3_init 85 = .ok (.getfield 23, 3) := by decide +kernel
theorem dX3_init_88 : decode cX3_init 88 = .ok (.iload_n 1, 1) := by decide +kernel
theorem dX3_init_89 : decode cX3_init 89 = .ok (.new 9, 3) := by decide +kernel
theorem dX3_init_92 : decode cX3_init 92 = .ok (.dup, 1) := by decide +kernel
theorem dX3_init_93 : decode cX3_init 93 = .ok (.invokespecial 11, 3) := by decide +kernel
theorem dX3_init_96 : decode cX3_init 96 = .ok (.aastore, 1) := by decide +kernel
theorem dX3_init_97 : decode cX3_init 97 = .ok (.iinc 1 1, 3) := by decide +kernel
theorem dX3_init_100 : decode cX3_init 100 = .ok (.goto (-25), 3) := by decide +kernel
theorem dX3_init_103 : decode cX3_init 103 = .ok (.aload_n 0, 1) := by decide +kernel
theorem dX3_init_104 : decode cX3_init 104 = .ok (.new 26, 3) := by decide +kernel
theorem dX3_init_107 : decode cX3_init 107 = .ok (.dup, 1) := by decide +kernel
theorem dX3_init_108 : decode cX3_init 108 = .ok (.invokespecial 28, 3) := by decide +kernel
theorem dX3_init_111 : decode cX3_init 111 = .ok (.putfield 29, 3) := by decide +kernel
theorem dX3_init_114 : decode cX3_init 114 = .ok (.return_, 1) := by decide +kernel
theorem dX3_set_0 : decode cX3_set 0 = .ok (.iload_n 1, 1) := by decide +kernel
theorem dX3_set_1 : decode cX3_set 1 = .ok (.ifCond .ne 9, 3) := by decide +kernel
theorem dX3_set_4 : decode cX3_set 4 = .ok (.aload_n 0, 1) := by decide +kernel
theorem dX3_set_5 : decode cX3_set 5 = .ok (.iload_n 2, 1) := by decide +kernel
theorem dX3_set_6 : decode cX3_set 6 = .ok (.invokevirtual 33, 3) := by decide +kernel
theorem dX3_set_9 : decode cX3_set 9 = .ok (.ireturn, 1) := by decide +kernel
theorem dX3_set_10 : decode cX3_set 10 = .ok (.iload_n 1, 1) := by decide +kernel
theorem dX3_set_11 : decode cX3_set 11 = .ok (.iconst 1, 1) := by decide +kernel
theorem dX3_set_12 : decode cX3_set 12 = .ok (.if_icmp .ne 9, 3) := by decide +kernel
theorem dX3_set_15 : decode cX3_set 15 = .ok (.aload_n 0, 1) := by decide +kernel
theorem dX3_set_16 : decode cX3_set 16 = .ok (.iload_n 2, 1) := by decide +kernel
theorem dX3_set_17 : decode cX3_set 17 = .ok (.invokevirtual 37, 3) := by decide +kernel
theorem dX3_set_20 : decode cX3_set 20 = .ok (.ireturn, 1) := by decide +kernel
theorem dX3_set_21 : decode cX3_set 21 = .ok (.bipush (-2), 2) := by decide +kernel
theorem dX3_set_23 : decode cX3_set 23 = .ok (.ireturn, 1) := by decide +kernel
theorem dX3_changeKeep_0 : decode cX3_changeKeep 0 = .ok (.iload_n 1, 1) := by decide +kernel
theorem dX3_changeKeep_1 : decode cX3_changeKeep 1 = .ok (.iconst 1, 1) := by decide +kernel
theorem dX3_changeKeep_2 : decode cX3_changeKeep 2 = .ok (.if_icmp .lt 9, 3) := by decide +kernel
theorem dX3_changeKeep_5 : decode cX3_changeKeep 5 = .ok (.iload_n 1, 1) := by decide +kernel
theorem dX3_changeKeep_6 : decode cX3_changeKeep 6 = .ok (.bipush 12, 2) := by decide +kernel
theorem dX3_changeKeep_8 : decode cX3_changeKeep 8 = .ok (.if_icmp .le 6, 3) := by decide +kernel
theorem dX3_changeKeep_11 : decode cX3_changeKeep 11 = .ok (.bipush (-2), 2) := by decide +kernel
theorem dX3_changeKeep_13 : decode cX3_changeKeep 13 = .ok (.ireturn, 1) := by decide +kernel
theorem dX3_changeKeep_14 : decode cX3_changeKeep 14 = .ok (.aload_n 0, 1) := by decide +kernel
theorem dX3_changeKeep_15 : decode cX3_changeKeep 15 = .ok (.getfield 12, 3) := by decide +kernel
theorem dX3_changeKeep_18 : decode cX3_changeKeep 18 = .ok (.getfield 40, 3) := by decide +kernel
theorem dX3_changeKeep_21 : decode cX3_changeKeep 21 = .ok (.ifCond .eq 6, 3) := by decide +kernel
theorem dX3_changeKeep_24 : decode cX3_changeKeep 24 = .ok (.bipush (-5), 2) := by decide +kernel
theorem dX3_changeKeep_26 : decode cX3_changeKeep 26 = .ok (.ireturn, 1) := by decide +kernel
theorem dX3_changeKeep_27 : decode cX3_changeKeep 27 = .ok (.aload_n 0, 1) := by decide +kernel
theorem dX3_changeKeep_28 : decode cX3_changeKeep 28 = .ok (.invokevirtual 44, 3) := by decide +kernel
theorem dX3_changeKeep_31 : decode cX3_changeKeep 31 = .ok (.aload_n 0, 1) := by decide +kernel
theorem dX3_changeKeep_32 : decode cX3_changeKeep 32 = .ok (.getfield 12, 3) := by decide +kernel
theorem dX3_changeKeep_35 : decode cX3_changeKeep 35 = .ok (.getfield 47, 3) := by decide +kernel
theorem dX3_changeKeep_38 : decode cX3_changeKeep 38 = .ok (.istore_n 2, 1) := by decide +kernel
theorem dX3_changeKeep_39 : decode cX3_changeKeep 39 = .ok (.aload_n 0, 1) := by decide +kernel
theorem dX3_changeKeep_40 : decode cX3_changeKeep 40 = .ok (.getfield 12, 3) := by decide +kernel
theorem dX3_changeKeep_43 : decode cX3_changeKeep 43 = .ok (.iload_n 1, 1) := by decide +kernel
theorem dX3_changeKeep_44 : decode cX3_changeKeep 44 = .ok (.putfield 47, 3) := by decide +kernel
theorem dX3_changeKeep_47 : decode cX3_changeKeep 47 = .ok (.iload_n 2, 1) := by decide +kernel
theorem dX3_changeKeep_48 : decode cX3_changeKeep 48 = .ok (.ireturn, 1) := by decide +kernel
theorem dX3_changeOpen_0 : decode cX3_changeOpen 0 = .ok (.iload_n 1, 1) := by decide +kernel
theorem dX3_changeOpen_1 : decode cX3_changeOpen 1 = .ok (.ifCond .lt 9, 3) := by decide +kernel
theorem dX3_changeOpen_4 : decode cX3_changeOpen 4 = .ok (.iload_n 1, 1) := by decide +kernel
theorem dX3_changeOpen_5 : decode cX3_changeOpen 5 = .ok (.bipush 6, 2) := by decide +kernel
theorem dX3_changeOpen_7 : decode cX3_changeOpen 7 = .ok (.if_icmp .le 6, 3) := by decide +kernel
theorem dX3_changeOpen_10 : decode cX3_changeOpen 10 = .ok (.bipush (-2), 2) := by decide +kernel
theorem dX3_changeOpen_12 : decode cX3_changeOpen 12 = .ok (.ireturn, 1) := by decide +kernel
theorem dX3_changeOpen_13 : decode cX3_changeOpen 13 = .ok (.aload_n 0, 1) := by decide +kernel
theorem dX3_changeOpen_14 : decode cX3_changeOpen 14 = .ok (.invokevirtual 44, 3) := by decide +kernel
theorem dX3_changeOpen_17 : decode cX3_changeOpen 17 = .ok (.aload_n 0, 1) := by decide +kernel
theorem dX3_changeOpen_18 : decode cX3_changeOpen 18 = .ok (.getfield 12, 3) := by decide +kernel
theorem dX3_changeOpen_21 : decode cX3_changeOpen 21 = .ok (.getfield 50, 3) := by decide +kernel
theorem dX3_changeOpen_24 : decode cX3_changeOpen 24 = .ok (.istore_n 2, 1) := by decide +kernel
theorem dX3_changeOpen_25 : decode cX3_changeOpen 25 = .ok (.aload_n 0, 1) := by decide +kernel
theorem dX3_changeOpen_26 : decode cX3_changeOpen 26 = .ok (.getfield 12, 3) := by decide +kernel
theorem dX3_changeOpen_29 : decode cX3_changeOpen 29 = .ok (.iload_n 1, 1) := by decide +kernel
theorem dX3_changeOpen_30 : decode cX3_changeOpen 30 = .ok (.putfield 50, 3) := by decide +kernel
theorem dX3_changeOpen_33 : decode cX3_changeOpen 33 = .ok (.aload_n 0, 1) := by decide +kernel
theorem dX3_changeOpen_34 : decode cX3_changeOpen 34 = .ok (.getfield 12, 3) := by decide +kernel
theorem dX3_changeOpen_37 : decode cX3_changeOpen 37 = .ok (.invokevirtual 53, 3) := by decide +kernel
theorem dX3_changeOpen_40 : decode cX3_changeOpen 40 = .ok (.iload_n 2, 1) := by decide +kernel
theorem dX3_changeOpen_41 : decode cX3_changeOpen 41 = .ok (.ireturn, 1) := by decide +kernel
theorem dX3_pass_0 : decode cX3_pass 0 = .ok (.aload_n 0, 1) := by decide +kernel
theorem dX3_pass_1 : decode cX3_pass 1 = .ok (.iload_n 1, 1) := by decide +kernel
theorem dX3_pass_2 : decode cX3_pass 2 = .ok (.invokevirtual 56, 3) := by decide +kernel
theorem dX3_pass_5 : decode cX3_pass 5 = .ok (.istore_n 2, 1) := by decide +kernel
theorem dX3_pass_6 : decode cX3_pass 6 = .ok (.iload_n 2, 1) := by decide +kernel
theorem dX3_pass_7 : decode cX3_pass 7 = .ok (.ifCond .eq 5, 3) := by decide +kernel
theorem dX3_pass_10 : decode cX3_pass 10 = .ok (.iload_n 2, 1) := by decide +kernel
theorem dX3_pass_11 : decode cX3_pass 11 = .ok (.ireturn, 1) := by decide +kernel
theorem dX3_pass_12 : decode cX3_pass 12 = .ok (.aload_n 0, 1) := by decide +kernel
theorem dX3_pass_13 : decode cX3_pass 13 = .ok (.invokevirtual 44, 3) := by decide +kernel
theorem dX3_pass_16 : decode cX3_pass 16 = .ok (.aload_n 0, 1) := by decide +kernel
theorem dX3_pass_17 : decode cX3_pass 17 = .ok (.getfield 12, 3) := by decide +kernel
theorem dX3_pass_20 : decode cX3_pass 20 = .ok (.iload_n 1, 1) := by decide +kernel
theorem dX3_pass_21 : decode cX3_pass 21 = .ok (.invokevirtual 59, 3) := by decide +kernel
theorem dX3_pass_24 : decode cX3_pass 24 = .ok (.ireturn, 1) := by decide +kernel
theorem dX3_mark_0 : decode cX3_mark 0 = .ok (.aload_n 0, 1) := by decide +kernel
theorem dX3_mark_1 : decode cX3_mark 1 = .ok (.iload_n 1, 1) := by decide +kernel
theorem dX3_mark_2 : decode cX3_mark 2 = .ok (.iload_n 2, 1) := by decide +kernel
theorem dX3_mark_3 : decode cX3_mark 3 = .ok (.iload_n 3, 1) := by decide +kernel
theorem dX3_mark_4 : decode cX3_mark 4 = .ok (.iconst 1, 1) := by decide +kernel
theorem dX3_mark_5 : decode cX3_mark 5 = .ok (.invokevirtual 62, 3) := by decide +kernel
theorem dX3_mark_8 : decode cX3_mark 8 = .ok (.ireturn, 1) := by decide +kernel
theorem dX3_clear_0 : decode cX3_clear 0 = .ok (.aload_n 0, 1) := by decide +kernel
theorem dX3_clear_1 : decode cX3_clear 1 = .ok (.iload_n 1, 1) := by decide +kernel
theorem dX3_clear_2 : decode cX3_clear 2 = .ok (.iload_n 2, 1) := by decide +kernel
theorem dX3_clear_3 : decode cX3_clear 3 = .ok (.iload_n 3, 1) := by decide +kernel
theorem dX3_clear_4 : decode cX3_clear 4 = .ok (.iconst 0, 1) := by decide +kernel
theorem dX3_clear_5 : decode cX3_clear 5 = .ok (.invokevirtual 62, 3) := by decide +kernel
theorem dX3_clear_8 : decode cX3_clear 8 = .ok (.ireturn, 1) := by decide +kernel
theorem dX3_changeDays_0 : decode cX3_changeDays 0 = .ok (.aload_n 0, 1) := by decide +kernel
theorem dX3_changeDays_1 : decode cX3_changeDays 1 = .ok (.iload_n 1, 1) := by decide +kernel
theorem dX3_changeDays_2 : decode cX3_changeDays 2 = .ok (.iload_n 2, 1) := by decide +kernel
theorem dX3_changeDays_3 : decode cX3_changeDays 3 = .ok (.iload_n 3, 1) := by decide +kernel
theorem dX3_changeDays_4 : decode cX3_changeDays 4 = .ok (.invokevirtual 66, 3) := by decide +kernel
theorem dX3_changeDays_7 : decode cX3_changeDays 7 = .ok (.istore 5, 2) := by decide +kernel
theorem dX3_changeDays_9 : decode cX3_changeDays 9 = .ok (.iload 5, 2) := by decide +kernel
theorem dX3_changeDays_11 : decode cX3_changeDays 11 = .ok (.ifCond .eq 6, 3) := by decide +kernel
theorem dX3_changeDays_14 : decode cX3_changeDays 14 = .ok (.iload 5, 2) := by decide +kernel
theorem dX3_changeDays_16 : decode cX3_changeDays 16 = .ok (.ireturn, 1) := by decide +kernel
theorem dX3_changeDays_17 : decode cX3_changeDays 17 = .ok (.aload_n 0, 1) := by decide +kernel
theorem dX3_changeDays_18 : decode cX3_changeDays 18 = .ok (.invokevirtual 44, 3) := by decide +kernel
theorem dX3_changeDays_21 : decode cX3_changeDays 21 = .ok (.aload_n 0, 1) := by decide +kernel
theorem dX3_changeDays_22 : decode cX3_changeDays 22 = .ok (.getfield 12, 3) := by decide +kernel
theorem dX3_changeDays_25 : decode cX3_changeDays 25 = .ok (.iload_n 1, 1) := by decide +kernel
theorem dX3_changeDays_26 : decode cX3_changeDays 26 = .ok (.iload_n 2, 1) := by decide +kernel
theorem dX3_changeDays_27 : decode cX3_changeDays 27 = .ok (.iload_n 3, 1) := by decide +kernel
theorem dX3_changeDays_28 : decode cX3_changeDays 28 = .ok (.iload 4, 2) := by decide +kernel
theorem dX3_changeDays_30 : decode cX3_changeDays 30 = .ok (.invokevirtual 70, 3) := by decide +kernel
theorem dX3_changeDays_33 : decode cX3_changeDays 33 = .ok (.ireturn, 1) := by decide +kernel
theorem dX3_marks_0 : decode cX3_marks 0 = .ok (.iload_n 1, 1) := by decide +kernel
theorem dX3_marks_1 : decode cX3_marks 1 = .ok (.iload_n 2, 1) := by decide +kernel
theorem dX3_marks_2 : decode cX3_marks 2 = .ok (.iload_n 3, 1) := by decide +kernel
theorem dX3_marks_3 : decode cX3_marks 3 = .ok (.invokestatic 73, 3) := by decide +kernel
theorem dX3_marks_6 : decode cX3_marks 6 = .ok (.istore 4, 2) := by decide +kernel
theorem dX3_marks_8 : decode cX3_marks 8 = .ok (.iload 4, 2) := by decide +kernel
theorem dX3_marks_10 : decode cX3_marks 10 = .ok (.ifCond .eq 6, 3) := by decide +kernel
theorem dX3_marks_13 : decode cX3_marks 13 = .ok (.iload 4, 2) := by decide +kernel
theorem dX3_marks_15 : decode cX3_marks 15 = .ok (.ireturn, 1) := by decide +kernel
theorem dX3_marks_16 : decode cX3_marks 16 = .ok (.iconst 0, 1) := by decide +kernel
theorem dX3_marks_17 : decode cX3_marks 17 = .ok (.istore 5, 2) := by decide +kernel
theorem dX3_marks_19 : decode cX3_marks 19 = .ok (.iload_n 3, 1) := by decide +kernel
theorem dX3_marks_20 : decode cX3_marks 20 = .ok (.invokestatic 76, 3) := by decide +kernel
theorem dX3_marks_23 : decode cX3_marks 23 = .ok (.istore 6, 2) := by decide +kernel
theorem dX3_marks_25 : decode cX3_marks 25 = .ok (.iload_n 2, 1) := by decide +kernel
theorem dX3_marks_26 : decode cX3_marks 26 = .ok (.invokestatic 76, 3) := by decide +kernel
theorem dX3_marks_29 : decode cX3_marks 29 = .ok (.istore 7, 2) := by decide +kernel
theorem dX3_marks_31 : decode cX3_marks 31 = .ok (.iload 7, 2) := by decide +kernel
theorem dX3_marks_33 : decode cX3_marks 33 = .ok (.iload 6, 2) := by decide +kernel
theorem dX3_marks_35 : decode cX3_marks 35 = .ok (.if_icmp .gt 58, 3) := by decide +kernel
theorem dX3_marks_38 : decode cX3_marks 38 = .ok (.iload 7, 2) := by decide +kernel
theorem dX3_marks_40 : decode cX3_marks 40 = .ok (.iload_n 2, 1) := by decide +kernel
theorem dX3_marks_41 : decode cX3_marks 41 = .ok (.iload_n 3, 1) := by decide +kernel
theorem dX3_marks_42 : decode cX3_marks 42 = .ok (.invokestatic 79, 3) := by decide +kernel
theorem dX3_marks_45 : decode cX3_marks 45 = .ok (.istore 8, 2) := by decide +kernel
theorem dX3_marks_47 : decode cX3_marks 47 = .ok (.iload 8, 2) := by decide +kernel
theorem dX3_marks_49 : decode cX3_marks 49 = .ok (.iload 7, 2) := by decide +kernel
theorem dX3_marks_51 : decode cX3_marks 51 = .ok (.invokestatic 82, 3) := by decide +kernel
theorem dX3_marks_54 : decode cX3_marks 54 = .ok (.if_icmp .eq 12, 3) := by decide +kernel
theorem dX3_marks_57 : decode cX3_marks 57 = .ok (.aload_n 0, 1) := by decide +kernel
theorem dX3_marks_58 : decode cX3_marks 58 = .ok (.getfield 12, 3) := by decide +kernel
theorem dX3_marks_61 : decode cX3_marks 61 = .ok (.iload 7, 2) := by decide +kernel
theorem dX3_marks_63 : decode cX3_marks 63 = .ok (.invokevirtual 85, 3) := by decide +kernel
theorem dX3_marks_66 : decode cX3_marks 66 = .ok (.iload 5, 2) := by decide +kernel
theorem dX3_marks_68 : decode cX3_marks 68 = .ok (.aload_n 0, 1) := by decide +kernel
theorem dX3_marks_69 : decode cX3_marks 69 = .ok (.getfield 12, 3) := by decide +kernel
theorem dX3_marks_72 : decode cX3_marks 72 = .ok (.iload_n 1, 1) := by decide +kernel
theorem dX3_marks_73 : decode cX3_marks 73 = .ok (.iload 7, 2) := by decide +kernel
theorem dX3_marks_75 : decode cX3_marks 75 = .ok (.invokevirtual 89, 3) := by decide +kernel
theorem dX3_marks_78 : decode cX3_marks 78 = .ok (.iload 8, 2) := by decide +kernel
theorem dX3_marks_80 : decode cX3_marks 80 = .ok (.iand, 1) := by decide +kernel
theorem dX3_marks_81 : decode cX3_marks 81 = .ok (.invokestatic 93, 3) := by decide +kernel
theorem dX3_marks_84 : decode cX3_marks 84 = .ok (.iadd, 1) := by decide +kernel
theorem dX3_marks_85 : decode cX3_marks 85 = .ok (.istore 5, 2) := by decide +kernel
theorem dX3_marks_87 : decode cX3_marks 87 = .ok (.iinc 7 1, 3) := by decide +kernel
theorem dX3_marks_90 : decode cX3_marks 90 = .ok (.goto (-59), 3) := by decide +kernel
theorem dX3_marks_93 : decode cX3_marks 93 = .ok (.iload 5, 2) := by decide +kernel
theorem dX3_marks_95 : decode cX3_marks 95 = .ok (.ireturn, 1) := by decide +kernel
theorem dX3_isMarked_0 : decode cX3_isMarked 0 = .ok (.iload_n 1, 1) := by decide +kernel
theorem dX3_isMarked_1 : decode cX3_isMarked 1 = .ok (.invokestatic 98, 3) := by decide +kernel
theorem dX3_isMarked_4 : decode cX3_isMarked 4 = .ok (.ifCond .eq 10, 3) := by decide +kernel
theorem dX3_isMarked_7 : decode cX3_isMarked 7 = .ok (.iload_n 2, 1) := by decide +kernel
theorem dX3_isMarked_8 : decode cX3_isMarked 8 = .ok (.invokestatic 102, 3) := by decide +kernel
theorem dX3_isMarked_11 : decode cX3_isMarked 11 = .ok (.ifCond .ne 5, 3) := by decide +kernel
theorem dX3_isMarked_14 : decode cX3_isMarked 14 = .ok (.iconst (-1), 1) := by decide +kernel
theorem dX3_isMarked_15 : decode cX3_isMarked 15 = .ok (.ireturn, 1) := by decide +kernel
theorem dX3_isMarked_16 : decode cX3_isMarked 16 = .ok (.iload_n 2, 1) := by decide +kernel
theorem dX3_isMarked_17 : decode cX3_isMarked 17 = .ok (.invokestatic 76, 3) := by decide +kernel
theorem dX3_isMarked_20 : decode cX3_isMarked 20 = .ok (.istore_n 3, 1) := by decide +kernel
theorem dX3_isMarked_21 : decode cX3_isMarked 21 = .ok (.aload_n 0, 1) := by decide +kernel
theorem dX3_isMarked_22 : decode cX3_isMarked 22 = .ok (.getfield 12, 3) := by decide +kernel
theorem dX3_isMarked_25 : decode cX3_isMarked 25 = .ok (.iload_n 3, 1) := by decide +kernel
theorem dX3_isMarked_26 : decode cX3_isMarked 26 = .ok (.invokevirtual 85, 3) := by decide +kernel
theorem dX3_isMarked_29 : decode cX3_isMarked 29 = .ok (.aload_n 0, 1) := by decide +kernel
theorem dX3_isMarked_30 : decode cX3_isMarked 30 = .ok (.getfield 12, 3) := by decide +kernel
theorem dX3_isMarked_33 : decode cX3_isMarked 33 = .ok (.iload_n 1, 1) := by decide +kernel
theorem dX3_isMarked_34 : decode cX3_isMarked 34 = .ok (.iload_n 3, 1) := by decide +kernel
theorem dX3_isMarked_35 : decode cX3_isMarked 35 = .ok (.invokevirtual 89, 3) := by decide +kernel
theorem dX3_isMarked_38 : decode cX3_isMarked 38 = .ok (.iload_n 2, 1) := by decide +kernel
theorem dX3_isMarked_39 : decode cX3_isMarked 39 = .ok (.iload_n 3, 1) := by decide +kernel
theorem dX3_isMarked_40 : decode cX3_isMarked 40 = .ok (.invokestatic 105, 3) := by decide +kernel
theorem dX3_isMarked_43 : decode cX3_isMarked 43 = .ok (.isub, 1) := by decide +kernel
theorem dX3_isMarked_44 : decode cX3_isMarked 44 = .ok (.invokestatic 108, 3) := by decide +kernel
theorem dX3_isMarked_47 : decode cX3_isMarked 47 = .ok (.ifCond .eq 7, 3) := by decide +kernel
theorem dX3_isMarked_50 : decode cX3_isMarked 50 = .ok (.iconst 1, 1) := by decide +kernel
theorem dX3_isMarked_51 : decode cX3_isMarked 51 = .ok (.goto 4, 3) := by decide +kernel
theorem dX3_isMarked_54 : decode cX3_isMarked 54 = .ok (.iconst 0, 1) := by decide +kernel
theorem dX3_isMarked_55 : decode cX3_isMarked 55 = .ok (.ireturn, 1) := by decide +kernel
theorem dX3_both_0 : decode cX3_both 0 = .ok (.iload_n 2, 1) := by decide +kernel
theorem dX3_both_1 : decode cX3_both 1 = .ok (.invokestatic 98, 3) := by decide +kernel
theorem dX3_both_4 : decode cX3_both 4 = .ok (.ifCond .ne 5, 3) := by decide +kernel
theorem dX3_both_7 : decode cX3_both 7 = .ok (.iconst (-1), 1) := by decide +kernel
theorem dX3_both_8 : decode cX3_both 8 = .ok (.ireturn, 1) := by decide +kernel
theorem dX3_both_9 : decode cX3_both 9 = .ok (.iload_n 1, 1) := by decide +kernel
theorem dX3_both_10 : decode cX3_both 10 = .ok (.iload_n 3, 1) := by decide +kernel
theorem dX3_both_11 : decode cX3_both 11 = .ok (.iload 4, 2) := by decide +kernel
theorem dX3_both_13 : decode cX3_both 13 = .ok (.invokestatic 73, 3) := by decide +kernel
theorem dX3_both_16 : decode cX3_both 16 = .ok (.istore 5, 2) := by decide +kernel
theorem dX3_both_18 : decode cX3_both 18 = .ok (.iload 5, 2) := by decide +kernel
theorem dX3_both_20 : decode cX3_both 20 = .ok (.ifCond .eq 6, 3) := by decide +kernel
theorem dX3_both_23 : decode cX3_both 23 = .ok (.iload 5, 2) := by decide +kernel
theorem dX3_both_25 : decode cX3_both 25 = .ok (.ireturn, 1) := by decide +kernel
theorem dX3_both_26 : decode cX3_both 26 = .ok (.aload_n 0, 1) := by decide +kernel
theorem dX3_both_27 : decode cX3_both 27 = .ok (.getfield 12, 3) := by decide +kernel
theorem dX3_both_30 : decode cX3_both 30 = .ok (.iload_n 3, 1) := by decide +kernel
theorem dX3_both_31 : decode cX3_both 31 = .ok (.iload 4, 2) := by decide +kernel
theorem dX3_both_33 : decode cX3_both 33 = .ok (.invokevirtual 112, 3) := by decide +kernel
theorem dX3_both_36 : decode cX3_both 36 = .ok (.iconst 0, 1) := by decide +kernel
theorem dX3_both_37 : decode cX3_both 37 = .ok (.istore 6, 2) := by decide +kernel
theorem dX3_both_39 : decode cX3_both 39 = .ok (.iload 4, 2) := by decide +kernel
theorem dX3_both_41 : decode cX3_both 41 = .ok (.invokestatic 76, 3) := by decide +kernel
theorem dX3_both_44 : decode cX3_both 44 = .ok (.istore 7, 2) := by decide +kernel
theorem dX3_both_46 : decode cX3_both 46 = .ok (.iload_n 3, 1) := by decide +kernel
theorem dX3_both_47 : decode cX3_both 47 = .ok (.invokestatic 76, 3) := by decide +kernel
theorem dX3_both_50 : decode cX3_both 50 = .ok (.istore 8, 2) := by decide +kernel
theorem dX3_both_52 : decode cX3_both 52 = .ok (.iload 8, 2) := by decide +kernel
theorem dX3_both_54 : decode cX3_both 54 = .ok (.iload 7, 2) := by decide +kernel
theorem dX3_both_56 : decode cX3_both 56 = .ok (.if_icmp .gt 51, 3) := by decide +kernel
theorem dX3_both_59 : decode cX3_both 59 = .ok (.aload_n 0, 1) := by decide +kernel
theorem dX3_both_60 : decode cX3_both 60 = .ok (.getfield 12, 3) := by decide +kernel
theorem dX3_both_63 : decode cX3_both 63 = .ok (.iload_n 1, 1) := by decide +kernel
theorem dX3_both_64 : decode cX3_both 64 = .ok (.iload 8, 2) := by decide +kernel
theorem dX3_both_66 : decode cX3_both 66 = .ok (.invokevirtual 89, 3) := by decide +kernel
theorem dX3_both_69 : decode cX3_both 69 = .ok (.aload_n 0, 1) := by decide +kernel
theorem dX3_both_70 : decode cX3_both 70 = .ok (.getfield 12, 3) := by decide +kernel
theorem dX3_both_73 : decode cX3_both 73 = .ok (.iload_n 2, 1) := by decide +kernel
theorem dX3_both_74 : decode cX3_both 74 = .ok (.iload 8, 2) := by decide +kernel
theorem dX3_both_76 : decode cX3_both 76 = .ok (.invokevirtual 89, 3) := by decide +kernel
theorem dX3_both_79 : decode cX3_both 79 = .ok (.iand, 1) := by decide +kernel
theorem dX3_both_80 : decode cX3_both 80 = .ok (.istore 9, 2) := by decide +kernel
theorem dX3_both_82 : decode cX3_both 82 = .ok (.iload 6, 2) := by decide +kernel
theorem dX3_both_84 : decode cX3_both 84 = .ok (.iload 9, 2) := by decide +kernel
theorem dX3_both_86 : decode cX3_both 86 = .ok (.iload 8, 2) := by decide +kernel
theorem dX3_both_88 : decode cX3_both 88 = .ok (.iload_n 3, 1) := by decide +kernel
theorem dX3_both_89 : decode cX3_both 89 = .ok (.iload 4, 2) := by decide +kernel
theorem dX3_both_91 : decode cX3_both 91 = .ok (.invokestatic 79, 3) := by decide +kernel
theorem dX3_both_94 : decode cX3_both 94 = .ok (.iand, 1) := by decide +kernel
theorem dX3_both_95 : decode cX3_both 95 = .ok (.invokestatic 93, 3) := by decide +kernel
theorem dX3_both_98 : decode cX3_both 98 = .ok (.iadd, 1) := by decide +kernel
theorem dX3_both_99 : decode cX3_both 99 = .ok (.istore 6, 2) := by decide +kernel
theorem dX3_both_101 : decode cX3_both 101 = .ok (.iinc 8 1, 3) := by decide +kernel
theorem dX3_both_104 : decode cX3_both 104 = .ok (.goto (-52), 3) := by decide +kernel
theorem dX3_both_107 : decode cX3_both 107 = .ok (.iload 6, 2) := by decide +kernel
theorem dX3_both_109 : decode cX3_both 109 = .ok (.ireturn, 1) := by decide +kernel
theorem dX3_crowded_0 : decode cX3_crowded 0 = .ok (.iload_n 2, 1) := by decide +kernel
theorem dX3_crowded_1 : decode cX3_crowded 1 = .ok (.iload_n 3, 1) := by decide +kernel
theorem dX3_crowded_2 : decode cX3_crowded 2 = .ok (.invokestatic 116, 3) := by decide +kernel
theorem dX3_crowded_5 : decode cX3_crowded 5 = .ok (.istore 4, 2) := by decide +kernel
theorem dX3_crowded_7 : decode cX3_crowded 7 = .ok (.iload 4, 2) := by decide +kernel
theorem dX3_crowded_9 : decode cX3_crowded 9 = .ok (.ifCond .eq 6, 3) := by decide +kernel
theorem dX3_crowded_12 : decode cX3_crowded 12 = .ok (.iload 4, 2) := by decide +kernel
theorem dX3_crowded_14 : decode cX3_crowded 14 = .ok (.ireturn, 1) := by decide +kernel
theorem dX3_crowded_15 : decode cX3_crowded 15 = .ok (.iload_n 1, 1) := by decide +kernel
theorem dX3_crowded_16 : decode cX3_crowded 16 = .ok (.iconst 1, 1) := by decide +kernel
theorem dX3_crowded_17 : decode cX3_crowded 17 = .ok (.if_icmp .lt 9, 3) := by decide +kernel
theorem dX3_crowded_20 : decode cX3_crowded 20 = .ok (.iload_n 1, 1) := by decide +kernel
theorem dX3_crowded_21 : decode cX3_crowded 21 = .ok (.bipush 16, 2) := by decide +kernel
theorem dX3_crowded_23 : decode cX3_crowded 23 = .ok (.if_icmp .le 6, 3) := by decide +kernel
theorem dX3_crowded_26 : decode cX3_crowded 26 = .ok (.bipush (-2), 2) := by decide +kernel
theorem dX3_crowded_28 : decode cX3_crowded 28 = .ok (.ireturn, 1) := by decide +kernel
theorem dX3_crowded_29 : decode cX3_crowded 29 = .ok (.aload_n 0, 1) := by decide +kernel
theorem dX3_crowded_30 : decode cX3_crowded 30 = .ok (.getfield 12, 3) := by decide +kernel
theorem dX3_crowded_33 : decode cX3_crowded 33 = .ok (.iload_n 2, 1) := by decide +kernel
theorem dX3_crowded_34 : decode cX3_crowded 34 = .ok (.iload_n 3, 1) := by decide +kernel
theorem dX3_crowded_35 : decode cX3_crowded 35 = .ok (.invokevirtual 112, 3) := by decide +kernel
theorem dX3_crowded_38 : decode cX3_crowded 38 = .ok (.iconst 0, 1) := by decide +kernel
theorem dX3_crowded_39 : decode cX3_crowded 39 = .ok (.istore 5, 2) := by decide +kernel
theorem dX3_crowded_41 : decode cX3_crowded 41 = .ok (.iload_n 3, 1) := by decide +kernel
theorem dX3_crowded_42 : decode cX3_crowded 42 = .ok (.invokestatic 76, 3) := by decide +kernel
theorem dX3_crowded_45 : decode cX3_crowded 45 = .ok (.istore 6, 2) := by decide +kernel
theorem dX3_crowded_47 : decode cX3_crowded 47 = .ok (.iload_n 2, 1) := by decide +kernel
theorem dX3_crowded_48 : decode cX3_crowded 48 = .ok (.invokestatic 76, 3) := by decide +kernel
theorem dX3_crowded_51 : decode cX3_crowded 51 = .ok (.istore 7, 2) := by decide +kernel
theorem dX3_crowded_53 : decode cX3_crowded 53 = .ok (.iload 7, 2) := by decide +kernel
theorem dX3_crowded_55 : decode cX3_crowded 55 = .ok (.iload 6, 2) := by decide +kernel
theorem dX3_crowded_57 : decode cX3_crowded 57 = .ok (.if_icmp .gt 31, 3) := by decide +kernel
theorem dX3_crowded_60 : decode cX3_crowded 60 = .ok (.iload 5, 2) := by decide +kernel
theorem dX3_crowded_62 : decode cX3_crowded 62 = .ok (.aload_n 0, 1) := by decide +kernel
theorem dX3_crowded_63 : decode cX3_crowded 63 = .ok (.getfield 12, 3) := by decide +kernel
theorem dX3_crowded_66 : decode cX3_crowded 66 = .ok (.iload_n 1, 1) := by decide +kernel
theorem dX3_crowded_67 : decode cX3_crowded 67 = .ok (.iload 7, 2) := by decide +kernel
theorem dX3_crowded_69 : decode cX3_crowded 69 = .ok (.iload 7, 2) := by decide +kernel
theorem dX3_crowded_71 : decode cX3_crowded 71 = .ok (.iload_n 2, 1) := by decide +kernel
theorem dX3_crowded_72 : decode cX3_crowded 72 = .ok (.iload_n 3, 1) := by decide +kernel
theorem dX3_crowded_73 : decode cX3_crowded 73 = .ok (.invokestatic 79, 3) := by decide +kernel
theorem dX3_crowded_76 : decode cX3_crowded 76 = .ok (.invokevirtual 119, 3) := by decide +kernel
theorem dX3_crowded_79 : decode cX3_crowded 79 = .ok (.iadd, 1) := by decide +kernel
theorem dX3_crowded_80 : decode cX3_crowded 80 = .ok (.istore 5, 2) := by decide +kernel
theorem dX3_crowded_82 : decode cX3_crowded 82 = .ok (.iinc 7 1, 3) := by decide +kernel
theorem dX3_crowded_85 : decode cX3_crowded 85 = .ok (.goto (-32), 3) := by decide +kernel
theorem dX3_crowded_88 : decode cX3_crowded 88 = .ok (.iload 5, 2) := by decide +kernel
theorem dX3_crowded_90 : decode cX3_crowded 90 = .ok (.ireturn, 1) := by decide +kernel
theorem dX3_longest_0 : decode cX3_longest 0 = .ok (.iload_n 1, 1) := by decide +kernel
theorem dX3_longest_1 : decode cX3_longest 1 = .ok (.iload_n 2, 1) := by decide +kernel
theorem dX3_longest_2 : decode cX3_longest 2 = .ok (.iload_n 3, 1) := by decide +kernel
theorem dX3_longest_3 : decode cX3_longest 3 = .ok (.invokestatic 73, 3) := by decide +kernel
theorem dX3_longest_6 : decode cX3_longest 6 = .ok (.istore 5, 2) := by decide +kernel
theorem dX3_longest_8 : decode cX3_longest 8 = .ok (.iload 5, 2) := by decide +kernel
theorem dX3_longest_10 : decode cX3_longest 10 = .ok (.ifCond .eq 6, 3) := by decide +kernel
theorem dX3_longest_13 : decode cX3_longest 13 = .ok (.iload 5, 2) := by decide +kernel
theorem dX3_longest_15 : decode cX3_longest 15 = .ok (.ireturn, 1) := by decide +kernel
theorem dX3_longest_16 : decode cX3_longest 16 = .ok (.iload 4, 2) := by decide +kernel
theorem dX3_longest_18 : decode cX3_longest 18 = .ok (.ifCond .eq 12, 3) := by decide +kernel
theorem dX3_longest_21 : decode cX3_longest 21 = .ok (.iload 4, 2) := by decide +kernel
theorem dX3_longest_23 : decode cX3_longest 23 = .ok (.iconst 1, 1) := by decide +kernel
theorem dX3_longest_24 : decode cX3_longest 24 = .ok (.if_icmp .eq 6, 3) := by decide +kernel
theorem dX3_longest_27 : decode cX3_longest 27 = .ok (.bipush (-2), 2) := by decide +kernel
theorem dX3_longest_29 : decode cX3_longest 29 = .ok (.ireturn, 1) := by decide +kernel
theorem dX3_longest_30 : decode cX3_longest 30 = .ok (.aload_n 0, 1) := by decide +kernel
theorem dX3_longest_31 : decode cX3_longest 31 = .ok (.getfield 12, 3) := by decide +kernel
theorem dX3_longest_34 : decode cX3_longest 34 = .ok (.iload_n 1, 1) := by decide +kernel
theorem dX3_longest_35 : decode cX3_longest 35 = .ok (.iload_n 2, 1) := by decide +kernel
theorem dX3_longest_36 : decode cX3_longest 36 = .ok (.iload_n 3, 1) := by decide +kernel
theorem dX3_longest_37 : decode cX3_longest 37 = .ok (.invokevirtual 122, 3) := by decide +kernel
theorem dX3_longest_40 : decode cX3_longest 40 = .ok (.iconst 0, 1) := by decide +kernel
theorem dX3_longest_41 : decode cX3_longest 41 = .ok (.istore 6, 2) := by decide +kernel
theorem dX3_longest_43 : decode cX3_longest 43 = .ok (.iconst 0, 1) := by decide +kernel
theorem dX3_longest_44 : decode cX3_longest 44 = .ok (.istore 7, 2) := by decide +kernel
theorem dX3_longest_46 : decode cX3_longest 46 = .ok (.bipush (-6), 2) := by decide +kernel
theorem dX3_longest_48 : decode cX3_longest 48 = .ok (.istore 8, 2) := by decide +kernel
theorem dX3_longest_50 : decode cX3_longest 50 = .ok (.iload_n 2, 1) := by decide +kernel
theorem dX3_longest_51 : decode cX3_longest 51 = .ok (.istore 9, 2) := by decide +kernel
theorem dX3_longest_53 : decode cX3_longest 53 = .ok (.iload 9, 2) := by decide +kernel
theorem dX3_longest_55 : decode cX3_longest 55 = .ok (.iload_n 3, 1) := by decide +kernel
theorem dX3_longest_56 : decode cX3_longest 56 = .ok (.if_icmp .gt 52, 3) := by decide +kernel
theorem dX3_longest_59 : decode cX3_longest 59 = .ok (.aload_n 0, 1) := by decide +kernel
theorem dX3_longest_60 : decode cX3_longest 60 = .ok (.getfield 12, 3) := by decide +kernel
theorem dX3_longest_63 : decode cX3_longest 63 = .ok (.iload_n 1, 1) := by decide +kernel
theorem dX3_longest_64 : decode cX3_longest 64 = .ok (.iload 9, 2) := by decide +kernel
theorem dX3_longest_66 : decode cX3_longest 66 = .ok (.invokevirtual 126, 3) := by decide +kernel
theorem dX3_longest_69 : decode cX3_longest 69 = .ok (.ifCond .eq 10, 3) := by decide +kernel
theorem dX3_longest_72 : decode cX3_longest 72 = .ok (.iload 6, 2) := by decide +kernel
theorem dX3_longest_74 : decode cX3_longest 74 = .ok (.iconst 1, 1) := by decide +kernel
theorem dX3_longest_75 : decode cX3_longest 75 = .ok (.iadd, 1) := by decide +kernel
theorem dX3_longest_76 : decode cX3_longest 76 = .ok (.goto 4, 3) := by decide +kernel
theorem dX3_longest_79 : decode cX3_longest 79 = .ok (.iconst 0, 1) := by decide +kernel
theorem dX3_longest_80 : decode cX3_longest 80 = .ok (.istore 6, 2) := by decide +kernel
theorem dX3_longest_82 : decode cX3_longest 82 = .ok (.iload 6, 2) := by decide +kernel
theorem dX3_longest_84 : decode cX3_longest 84 = .ok (.iload 7, 2) := by decide +kernel
theorem dX3_longest_86 : decode cX3_longest 86 = .ok (.if_icmp .le 16, 3) := by decide +kernel
theorem dX3_longest_89 : decode cX3_longest 89 = .ok (.iload 6, 2) := by decide +kernel
theorem dX3_longest_91 : decode cX3_longest 91 = .ok (.istore 7, 2) := by decide +kernel
theorem dX3_longest_93 : decode cX3_longest 93 = .ok (.iload 9, 2) := by decide +kernel
theorem dX3_longest_95 : decode cX3_longest 95 = .ok (.iload 6, 2) := by decide +kernel
theorem dX3_longest_97 : decode cX3_longest 97 = .ok (.isub, 1) := by decide +kernel
theorem dX3_longest_98 : decode cX3_longest 98 = .ok (.iconst 1, 1) := by decide +kernel
theorem dX3_longest_99 : decode cX3_longest 99 = .ok (.iadd, 1) := by decide +kernel
theorem dX3_longest_100 : decode cX3_longest 100 = .ok (.istore 8, 2) := by decide +kernel
theorem dX3_longest_102 : decode cX3_longest 102 = .ok (.iinc 9 1, 3) := by decide +kernel
theorem dX3_longest_105 : decode cX3_longest 105 = .ok (.goto (-52), 3) := by decide +kernel
theorem dX3_longest_108 : decode cX3_longest 108 = .ok (.iload 4, 2) := by decide +kernel
theorem dX3_longest_110 : decode cX3_longest 110 = .ok (.ifCond .ne 8, 3) := by decide +kernel
theorem dX3_longest_113 : decode cX3_longest 113 = .ok (.iload 7, 2) := by decide +kernel
theorem dX3_longest_115 : decode cX3_longest 115 = .ok (.goto 5, 3) := by decide +kernel
theorem dX3_longest_118 : decode cX3_longest 118 = .ok (.iload 8, 2) := by decide +kernel
theorem dX3_longest_120 : decode cX3_longest 120 = .ok (.ireturn, 1) := by decide +kernel
theorem dX3_nextMark_0 : decode cX3_nextMark 0 = .ok (.iload_n 1, 1) := by decide +kernel
theorem dX3_nextMark_1 : decode cX3_nextMark 1 = .ok (.invokestatic 98, 3) := by decide +kernel
theorem dX3_nextMark_4 : decode cX3_nextMark 4 = .ok (.ifCond .eq 10, 3) := by decide +kernel
theorem dX3_nextMark_7 : decode cX3_nextMark 7 = .ok (.iload_n 2, 1) := by decide +kernel
theorem dX3_nextMark_8 : decode cX3_nextMark 8 = .ok (.invokestatic 102, 3) := by decide +kernel
theorem dX3_nextMark_11 : decode cX3_nextMark 11 = .ok (.ifCond .ne 5, 3) := by decide +kernel
theorem dX3_nextMark_14 : decode cX3_nextMark 14 = .ok (.iconst (-1), 1) := by decide +kernel
theorem dX3_nextMark_15 : decode cX3_nextMark 15 = .ok (.ireturn, 1) := by decide +kernel
theorem dX3_nextMark_16 : decode cX3_nextMark 16 = .ok (.iload_n 2, 1) := by decide +kernel
theorem dX3_nextMark_17 : decode cX3_nextMark 17 = .ok (.invokestatic 76, 3) := by decide +kernel
theorem dX3_nextMark_20 : decode cX3_nextMark 20 = .ok (.istore_n 3, 1) := by decide +kernel
theorem dX3_nextMark_21 : decode cX3_nextMark 21 = .ok (.iload_n 3, 1) := by decide +kernel
theorem dX3_nextMark_22 : decode cX3_nextMark 22 = .ok (.bipush 120, 2) := by decide +kernel
theorem dX3_nextMark_24 : decode cX3_nextMark 24 = .ok (.if_icmp .ge 79, 3) := by decide +kernel
theorem dX3_nextMark_27 : decode cX3_nextMark 27 = .ok (.aload_n 0, 1) := by decide +kernel
theorem dX3_nextMark_28 : decode cX3_nextMark 28 = .ok (.getfield 12, 3) := by decide +kernel
theorem dX3_nextMark_31 : decode cX3_nextMark 31 = .ok (.iload_n 1, 1) := by decide +kernel
theorem dX3_nextMark_32 : decode cX3_nextMark 32 = .ok (.iload_n 3, 1) := by decide +kernel
theorem dX3_nextMark_33 : decode cX3_nextMark 33 = .ok (.invokevirtual 89, 3) := by decide +kernel
theorem dX3_nextMark_36 : decode cX3_nextMark 36 = .ok (.ifCond .eq 61, 3) := by decide +kernel
theorem dX3_nextMark_39 : decode cX3_nextMark 39 = .ok (.aload_n 0, 1) := by decide +kernel
theorem dX3_nextMark_40 : decode cX3_nextMark 40 = .ok (.getfield 12, 3) := by decide +kernel
theorem dX3_nextMark_43 : decode cX3_nextMark 43 = .ok (.iload_n 3, 1) := by decide +kernel
theorem dX3_nextMark_44 : decode cX3_nextMark 44 = .ok (.invokevirtual 85, 3) := by decide +kernel
theorem dX3_nextMark_47 : decode cX3_nextMark 47 = .ok (.iload_n 3, 1) := by decide +kernel
theorem dX3_nextMark_48 : decode cX3_nextMark 48 = .ok (.invokestatic 105, 3) := by decide +kernel
theorem dX3_nextMark_51 : decode cX3_nextMark 51 = .ok (.iload_n 3, 1) := by decide +kernel
theorem dX3_nextMark_52 : decode cX3_nextMark 52 = .ok (.invokestatic 129, 3) := by decide +kernel
theorem dX3_nextMark_55 : decode cX3_nextMark 55 = .ok (.iadd, 1) := by decide +kernel
theorem dX3_nextMark_56 : decode cX3_nextMark 56 = .ok (.istore 4, 2) := by decide +kernel
theorem dX3_nextMark_58 : decode cX3_nextMark 58 = .ok (.iload_n 2, 1) := by decide +kernel
theorem dX3_nextMark_59 : decode cX3_nextMark 59 = .ok (.iload_n 3, 1) := by decide +kernel
theorem dX3_nextMark_60 : decode cX3_nextMark 60 = .ok (.invokestatic 105, 3) := by decide +kernel
theorem dX3_nextMark_63 : decode cX3_nextMark 63 = .ok (.invokestatic 132, 3) := by decide +kernel
theorem dX3_nextMark_66 : decode cX3_nextMark 66 = .ok (.istore 5, 2) := by decide +kernel
theorem dX3_nextMark_68 : decode cX3_nextMark 68 = .ok (.iload 5, 2) := by decide +kernel
theorem dX3_nextMark_70 : decode cX3_nextMark 70 = .ok (.iload 4, 2) := by decide +kernel
theorem dX3_nextMark_72 : decode cX3_nextMark 72 = .ok (.if_icmp .ge 25, 3) := by decide +kernel
theorem dX3_nextMark_75 : decode cX3_nextMark 75 = .ok (.aload_n 0, 1) := by decide +kernel
theorem dX3_nextMark_76 : decode cX3_nextMark 76 = .ok (.getfield 12, 3) := by decide +kernel
theorem dX3_nextMark_79 : decode cX3_nextMark 79 = .ok (.iload_n 1, 1) := by decide +kernel
theorem dX3_nextMark_80 : decode cX3_nextMark 80 = .ok (.iload 5, 2) := by decide +kernel
theorem dX3_nextMark_82 : decode cX3_nextMark 82 = .ok (.invokevirtual 126, 3) := by decide +kernel
theorem dX3_nextMark_85 : decode cX3_nextMark 85 = .ok (.ifCond .eq 6, 3) := by decide +kernel
theorem dX3_nextMark_88 : decode cX3_nextMark 88 = .ok (.iload 5, 2) := by decide +kernel
theorem dX3_nextMark_90 : decode cX3_nextMark 90 = .ok (.ireturn, 1) := by decide +kernel
theorem dX3_nextMark_91 : decode cX3_nextMark 91 = .ok (.iinc 5 1, 3) := by decide +kernel
theorem dX3_nextMark_94 : decode cX3_nextMark 94 = .ok (.goto (-26), 3) := by decide +kernel
theorem dX3_nextMark_97 : decode cX3_nextMark 97 = .ok (.iinc 3 1, 3) := by decide +kernel
theorem dX3_nextMark_100 : decode cX3_nextMark 100 = .ok (.goto (-79), 3) := by decide +kernel
theorem dX3_nextMark_103 : decode cX3_nextMark 103 = .ok (.bipush (-6), 2) := by decide +kernel
theorem dX3_nextMark_105 : decode cX3_nextMark 105 = .ok (.ireturn, 1) := by decide +kernel
theorem dX3_ofMonth_0 : decode cX3_ofMonth 0 = .ok (.iload_n 1, 1) := by decide +kernel
theorem dX3_ofMonth_1 : decode cX3_ofMonth 1 = .ok (.invokestatic 137, 3) := by decide +kernel
theorem dX3_ofMonth_4 : decode cX3_ofMonth 4 = .ok (.ifCond .ne 5, 3) := by decide +kernel
theorem dX3_ofMonth_7 : decode cX3_ofMonth 7 = .ok (.iconst (-1), 1) := by decide +kernel
theorem dX3_ofMonth_8 : decode cX3_ofMonth 8 = .ok (.ireturn, 1) := by decide +kernel
theorem dX3_ofMonth_9 : decode cX3_ofMonth 9 = .ok (.iload_n 2, 1) := by decide +kernel
theorem dX3_ofMonth_10 : decode cX3_ofMonth 10 = .ok (.tableswitch 170 0 9 #[54, 59, 64, 81, 100, 125, 134, 143, 152, 161], 54) := by decide +kernel
theorem dX3_ofMonth_64 : decode cX3_ofMonth 64 = .ok (.iload_n 1, 1) := by decide +kernel
theorem dX3_ofMonth_65 : decode cX3_ofMonth 65 = .ok (.invokestatic 105, 3) := by decide +kernel
theorem dX3_ofMonth_68 : decode cX3_ofMonth 68 = .ok (.ireturn, 1) := by decide +kernel
theorem dX3_ofMonth_69 : decode cX3_ofMonth 69 = .ok (.iload_n 1, 1) := by decide +kernel
theorem dX3_ofMonth_70 : decode cX3_ofMonth 70 = .ok (.invokestatic 129, 3) := by decide +kernel
theorem dX3_ofMonth_73 : decode cX3_ofMonth 73 = .ok (.ireturn, 1) := by decide +kernel
theorem dX3_ofMonth_74 : decode cX3_ofMonth 74 = .ok (.aload_n 0, 1) := by decide +kernel
theorem dX3_ofMonth_75 : decode cX3_ofMonth 75 = .ok (.getfield 12, 3) := by decide +kernel
theorem dX3_ofMonth_78 : decode cX3_ofMonth 78 = .ok (.iload_n 1, 1) := by decide +kernel
theorem dX3_ofMonth_79 : decode cX3_ofMonth 79 = .ok (.invokevirtual 140, 3) := by decide +kernel
theorem dX3_ofMonth_82 : decode cX3_ofMonth 82 = .ok (.ifCond .eq 7, 3) := by decide +kernel
theorem dX3_ofMonth_85 : decode cX3_ofMonth 85 = .ok (.iconst 1, 1) := by decide +kernel
theorem dX3_ofMonth_86 : decode cX3_ofMonth 86 = .ok (.goto 4, 3) := by decide +kernel
theorem dX3_ofMonth_89 : decode cX3_ofMonth 89 = .ok (.iconst 0, 1) := by decide +kernel
theorem dX3_ofMonth_90 : decode cX3_ofMonth 90 = .ok (.ireturn, 1) := by decide +kernel
theorem dX3_ofMonth_91 : decode cX3_ofMonth 91 = .ok (.aload_n 0, 1) := by decide +kernel
theorem dX3_ofMonth_92 : decode cX3_ofMonth 92 = .ok (.getfield 12, 3) := by decide +kernel
theorem dX3_ofMonth_95 : decode cX3_ofMonth 95 = .ok (.iload_n 1, 1) := by decide +kernel
theorem dX3_ofMonth_96 : decode cX3_ofMonth 96 = .ok (.invokevirtual 143, 3) := by decide +kernel
theorem dX3_ofMonth_99 : decode cX3_ofMonth 99 = .ok (.bipush (-6), 2) := by decide +kernel
theorem dX3_ofMonth_101 : decode cX3_ofMonth 101 = .ok (.if_icmp .ne 7, 3) := by decide +kernel
theorem dX3_ofMonth_104 : decode cX3_ofMonth 104 = .ok (.iconst 0, 1) := by decide +kernel
theorem dX3_ofMonth_105 : decode cX3_ofMonth 105 = .ok (.goto 4, 3) := by decide +kernel
theorem dX3_ofMonth_108 : decode cX3_ofMonth 108 = .ok (.iconst 1, 1) := by decide +kernel
theorem dX3_ofMonth_109 : decode cX3_ofMonth 109 = .ok (.ireturn, 1) := by decide +kernel
theorem dX3_ofMonth_110 : decode cX3_ofMonth 110 = .ok (.aload_n 0, 1) := by decide +kernel
theorem dX3_ofMonth_111 : decode cX3_ofMonth 111 = .ok (.getfield 12, 3) := by decide +kernel
theorem dX3_ofMonth_114 : decode cX3_ofMonth 114 = .ok (.iload_n 1, 1) := by decide +kernel
theorem dX3_ofMonth_115 : decode cX3_ofMonth 115 = .ok (.invokevirtual 146, 3) := by decide +kernel
theorem dX3_ofMonth_118 : decode cX3_ofMonth 118 = .ok (.iconst 5, 1) := by decide +kernel
theorem dX3_ofMonth_119 : decode cX3_ofMonth 119 = .ok (.if_icmp .ne 7, 3) := by decide +kernel
theorem dX3_ofMonth_122 : decode cX3_ofMonth 122 = .ok (.iconst 4, 1) := by decide +kernel
theorem dX3_ofMonth_123 : decode cX3_ofMonth 123 = .ok (.goto 11, 3) := by decide +kernel
theorem dX3_ofMonth_126 : decode cX3_ofMonth 126 = .ok (.aload_n 0, 1) := by decide +kernel
theorem dX3_ofMonth_127 : decode cX3_ofMonth 127 = .ok (.getfield 12, 3) := by decide +kernel
theorem dX3_ofMonth_130 : decode cX3_ofMonth 130 = .ok (.iload_n 1, 1) := by decide +kernel
theorem dX3_ofMonth_131 : decode cX3_ofMonth 131 = .ok (.invokevirtual 146, 3) := by decide +kernel
theorem dX3_ofMonth_134 : decode cX3_ofMonth 134 = .ok (.ireturn, 1) := by decide +kernel
theorem dX3_ofMonth_135 : decode cX3_ofMonth 135 = .ok (.aload_n 0, 1) := by decide +kernel
theorem dX3_ofMonth_136 : decode cX3_ofMonth 136 = .ok (.getfield 12, 3) := by decide +kernel
theorem dX3_ofMonth_139 : decode cX3_ofMonth 139 = .ok (.iload_n 1, 1) := by decide +kernel
theorem dX3_ofMonth_140 : decode cX3_ofMonth 140 = .ok (.invokevirtual 149, 3) := by decide +kernel
theorem dX3_ofMonth_143 : decode cX3_ofMonth 143 = .ok (.ireturn, 1) := by decide +kernel
theorem dX3_ofMonth_144 : decode cX3_ofMonth 144 = .ok (.aload_n 0, 1) := by decide +kernel
theorem dX3_ofMonth_145 : decode cX3_ofMonth 145 = .ok (.getfield 12, 3) := by decide +kernel
theorem dX3_ofMonth_148 : decode cX3_ofMonth 148 = .ok (.iload_n 1, 1) := by decide +kernel
theorem dX3_ofMonth_149 : decode cX3_ofMonth 149 = .ok (.invokevirtual 152, 3) := by decide +kernel
theorem dX3_ofMonth_152 : decode cX3_ofMonth 152 = .ok (.ireturn, 1) := by decide +kernel
theorem dX3_ofMonth_153 : decode cX3_ofMonth 153 = .ok (.aload_n 0, 1) := by decide +kernel
theorem dX3_ofMonth_154 : decode cX3_ofMonth 154 = .ok (.getfield 12, 3) := by decide +kernel
theorem dX3_ofMonth_157 : decode cX3_ofMonth 157 = .ok (.iload_n 1, 1) := by decide +kernel
theorem dX3_ofMonth_158 : decode cX3_ofMonth 158 = .ok (.invokevirtual 155, 3) := by decide +kernel
theorem dX3_ofMonth_161 : decode cX3_ofMonth 161 = .ok (.ireturn, 1) := by decide +kernel
theorem dX3_ofMonth_162 : decode cX3_ofMonth 162 = .ok (.aload_n 0, 1) := by decide +kernel
theorem dX3_ofMonth_163 : decode cX3_ofMonth 163 = .ok (.getfield 12, 3) := by decide +kernel
theorem dX3_ofMonth_166 : decode cX3_ofMonth 166 = .ok (.iload_n 1, 1) := by decide +kernel
theorem dX3_ofMonth_167 : decode cX3_ofMonth 167 = .ok (.invokevirtual 158, 3) := by decide +kernel
theorem dX3_ofMonth_170 : decode cX3_ofMonth 170 = .ok (.ireturn, 1) := by decide +kernel
theorem dX3_ofMonth_171 : decode cX3_ofMonth 171 = .ok (.aload_n 0, 1) := by decide +kernel
theorem dX3_ofMonth_172 : decode cX3_ofMonth 172 = .ok (.getfield 12, 3) := by decide +kernel
theorem dX3_ofMonth_175 : decode cX3_ofMonth 175 = .ok (.iload_n 1, 1) := by decide +kernel
theorem dX3_ofMonth_176 : decode cX3_ofMonth 176 = .ok (.invokevirtual 143, 3) := by decide +kernel
theorem dX3_ofMonth_179 : decode cX3_ofMonth 179 = .ok (.ireturn, 1) := by decide +kernel
theorem dX3_ofMonth_180 : decode cX3_ofMonth 180 = .ok (.bipush (-2), 2) := by decide +kernel
theorem dX3_ofMonth_182 : decode cX3_ofMonth 182 = .ok (.ireturn, 1) := by decide +kernel
theorem dX3_inMonth_0 : decode cX3_inMonth 0 = .ok (.iload_n 1, 1) := by decide +kernel
theorem dX3_inMonth_1 : decode cX3_inMonth 1 = .ok (.invokestatic 98, 3) := by decide +kernel
theorem dX3_inMonth_4 : decode cX3_inMonth 4 = .ok (.ifCond .eq 10, 3) := by decide +kernel
theorem dX3_inMonth_7 : decode cX3_inMonth 7 = .ok (.iload_n 2, 1) := by decide +kernel
theorem dX3_inMonth_8 : decode cX3_inMonth 8 = .ok (.invokestatic 137, 3) := by decide +kernel
theorem dX3_inMonth_11 : decode cX3_inMonth 11 = .ok (.ifCond .ne 5, 3) := by decide +kernel
theorem dX3_inMonth_14 : decode cX3_inMonth 14 = .ok (.iconst (-1), 1) := by decide +kernel
theorem dX3_inMonth_15 : decode cX3_inMonth 15 = .ok (.ireturn, 1) := by decide +kernel
theorem dX3_inMonth_16 : decode cX3_inMonth 16 = .ok (.aload_n 0, 1) := by decide +kernel
theorem dX3_inMonth_17 : decode cX3_inMonth 17 = .ok (.getfield 12, 3) := by decide +kernel
theorem dX3_inMonth_20 : decode cX3_inMonth 20 = .ok (.iload_n 1, 1) := by decide +kernel
theorem dX3_inMonth_21 : decode cX3_inMonth 21 = .ok (.iload_n 2, 1) := by decide +kernel
theorem dX3_inMonth_22 : decode cX3_inMonth 22 = .ok (.invokevirtual 89, 3) := by decide +kernel
theorem dX3_inMonth_25 : decode cX3_inMonth 25 = .ok (.invokestatic 93, 3) := by decide +kernel
theorem dX3_inMonth_28 : decode cX3_inMonth 28 = .ok (.ireturn, 1) := by decide +kernel
theorem dX3_dayOf_0 : decode cX3_dayOf 0 = .ok (.iload_n 1, 1) := by decide +kernel
theorem dX3_dayOf_1 : decode cX3_dayOf 1 = .ok (.ifCond .lt 20, 3) := by decide +kernel
theorem dX3_dayOf_4 : decode cX3_dayOf 4 = .ok (.iload_n 1, 1) := by decide +kernel
theorem dX3_dayOf_5 : decode cX3_dayOf 5 = .ok (.bipush 10, 2) := by decide +kernel
theorem dX3_dayOf_7 : decode cX3_dayOf 7 = .ok (.if_icmp .ge 14, 3) := by decide +kernel
theorem dX3_dayOf_10 : decode cX3_dayOf 10 = .ok (.iload_n 2, 1) := by decide +kernel
theorem dX3_dayOf_11 : decode cX3_dayOf 11 = .ok (.iconst 1, 1) := by decide +kernel
theorem dX3_dayOf_12 : decode cX3_dayOf 12 = .ok (.if_icmp .lt 9, 3) := by decide +kernel
theorem dX3_dayOf_15 : decode cX3_dayOf 15 = .ok (.iload_n 2, 1) := by decide +kernel
theorem dX3_dayOf_16 : decode cX3_dayOf 16 = .ok (.bipush 12, 2) := by decide +kernel
theorem dX3_dayOf_18 : decode cX3_dayOf 18 = .ok (.if_icmp .le 5, 3) := by decide +kernel
theorem dX3_dayOf_21 : decode cX3_dayOf 21 = .ok (.iconst (-1), 1) := by decide +kernel
theorem dX3_dayOf_22 : decode cX3_dayOf 22 = .ok (.ireturn, 1) := by decide +kernel
theorem dX3_dayOf_23 : decode cX3_dayOf 23 = .ok (.iload_n 1, 1) := by decide +kernel
theorem dX3_dayOf_24 : decode cX3_dayOf 24 = .ok (.bipush 12, 2) := by decide +kernel
theorem dX3_dayOf_26 : decode cX3_dayOf 26 = .ok (.imul, 1) := by decide +kernel
theorem dX3_dayOf_27 : decode cX3_dayOf 27 = .ok (.iload_n 2, 1) := by decide +kernel
theorem dX3_dayOf_28 : decode cX3_dayOf 28 = .ok (.iadd, 1) := by decide +kernel
theorem dX3_dayOf_29 : decode cX3_dayOf 29 = .ok (.iconst 1, 1) := by decide +kernel
theorem dX3_dayOf_30 : decode cX3_dayOf 30 = .ok (.isub, 1) := by decide +kernel
theorem dX3_dayOf_31 : decode cX3_dayOf 31 = .ok (.istore 4, 2) := by decide +kernel
theorem dX3_dayOf_33 : decode cX3_dayOf 33 = .ok (.iload_n 3, 1) := by decide +kernel
theorem dX3_dayOf_34 : decode cX3_dayOf 34 = .ok (.iconst 1, 1) := by decide +kernel
theorem dX3_dayOf_35 : decode cX3_dayOf 35 = .ok (.if_icmp .lt 12, 3) := by decide +kernel
theorem dX3_dayOf_38 : decode cX3_dayOf 38 = .ok (.iload_n 3, 1) := by decide +kernel
theorem dX3_dayOf_39 : decode cX3_dayOf 39 = .ok (.iload 4, 2) := by decide +kernel
theorem dX3_dayOf_41 : decode cX3_dayOf 41 = .ok (.invokestatic 129, 3) := by decide +kernel
theorem dX3_dayOf_44 : decode cX3_dayOf 44 = .ok (.if_icmp .le 5, 3) := by decide +kernel
theorem dX3_dayOf_47 : decode cX3_dayOf 47 = .ok (.iconst (-1), 1) := by decide +kernel
theorem dX3_dayOf_48 : decode cX3_dayOf 48 = .ok (.ireturn, 1) := by decide +kernel
theorem dX3_dayOf_49 : decode cX3_dayOf 49 = .ok (.iload 4, 2) := by decide +kernel
theorem dX3_dayOf_51 : decode cX3_dayOf 51 = .ok (.invokestatic 105, 3) := by decide +kernel
theorem dX3_dayOf_54 : decode cX3_dayOf 54 = .ok (.iload_n 3, 1) := by decide +kernel
theorem dX3_dayOf_55 : decode cX3_dayOf 55 = .ok (.iadd, 1) := by decide +kernel
theorem dX3_dayOf_56 : decode cX3_dayOf 56 = .ok (.iconst 1, 1) := by decide +kernel
theorem dX3_dayOf_57 : decode cX3_dayOf 57 = .ok (.isub, 1) := by decide +kernel
theorem dX3_dayOf_58 : decode cX3_dayOf 58 = .ok (.ireturn, 1) := by decide +kernel
theorem dX3_dateOf_0 : decode cX3_dateOf 0 = .ok (.iload_n 1, 1) := by decide +kernel
theorem dX3_dateOf_1 : decode cX3_dateOf 1 = .ok (.invokestatic 102, 3) := by decide +kernel
theorem dX3_dateOf_4 : decode cX3_dateOf 4 = .ok (.ifCond .ne 5, 3) := by decide +kernel
theorem dX3_dateOf_7 : decode cX3_dateOf 7 = .ok (.iconst (-1), 1) := by decide +kernel
theorem dX3_dateOf_8 : decode cX3_dateOf 8 = .ok (.ireturn, 1) := by decide +kernel
theorem dX3_dateOf_9 : decode cX3_dateOf 9 = .ok (.iload_n 1, 1) := by decide +kernel
theorem dX3_dateOf_10 : decode cX3_dateOf 10 = .ok (.invokestatic 76, 3) := by decide +kernel
theorem dX3_dateOf_13 : decode cX3_dateOf 13 = .ok (.istore_n 3, 1) := by decide +kernel
theorem dX3_dateOf_14 : decode cX3_dateOf 14 = .ok (.iload_n 2, 1) := by decide +kernel
theorem dX3_dateOf_15 : decode cX3_dateOf 15 = .ok (.tableswitch 53 0 3 #[29, 35, 42, 51], 29) := by decide +kernel
theorem dX3_dateOf_44 : decode cX3_dateOf 44 = .ok (.iload_n 1, 1) := by decide +kernel
theorem dX3_dateOf_45 : decode cX3_dateOf 45 = .ok (.sipush 365, 3) := by decide +kernel
theorem dX3_dateOf_48 : decode cX3_dateOf 48 = .ok (.idiv, 1) := by decide +kernel
theorem dX3_dateOf_49 : decode cX3_dateOf 49 = .ok (.ireturn, 1) := by decide +kernel
theorem dX3_dateOf_50 : decode cX3_dateOf 50 = .ok (.iload_n 3, 1) := by decide +kernel
theorem dX3_dateOf_51 : decode cX3_dateOf 51 = .ok (.bipush 12, 2) := by decide +kernel
theorem dX3_dateOf_53 : decode cX3_dateOf 53 = .ok (.irem, 1) := by decide +kernel
theorem dX3_dateOf_54 : decode cX3_dateOf 54 = .ok (.iconst 1, 1) := by decide +kernel
theorem dX3_dateOf_55 : decode cX3_dateOf 55 = .ok (.iadd, 1) := by decide +kernel
theorem dX3_dateOf_56 : decode cX3_dateOf 56 = .ok (.ireturn, 1) := by decide +kernel
theorem dX3_dateOf_57 : decode cX3_dateOf 57 = .ok (.iload_n 1, 1) := by decide +kernel
theorem dX3_dateOf_58 : decode cX3_dateOf 58 = .ok (.iload_n 3, 1) := by decide +kernel
theorem dX3_dateOf_59 : decode cX3_dateOf 59 = .ok (.invokestatic 105, 3) := by decide +kernel
theorem dX3_dateOf_62 : decode cX3_dateOf 62 = .ok (.isub, 1) := by decide +kernel
theorem dX3_dateOf_63 : decode cX3_dateOf 63 = .ok (.iconst 1, 1) := by decide +kernel
theorem dX3_dateOf_64 : decode cX3_dateOf 64 = .ok (.iadd, 1) := by decide +kernel
theorem dX3_dateOf_65 : decode cX3_dateOf 65 = .ok (.ireturn, 1) := by decide +kernel
theorem dX3_dateOf_66 : decode cX3_dateOf 66 = .ok (.iload_n 3, 1) := by decide +kernel
theorem dX3_dateOf_67 : decode cX3_dateOf 67 = .ok (.ireturn, 1) := by decide +kernel
theorem dX3_dateOf_68 : decode cX3_dateOf 68 = .ok (.bipush (-2), 2) := by decide +kernel
theorem dX3_dateOf_70 : decode cX3_dateOf 70 = .ok (.ireturn, 1) := by decide +kernel
theorem dX3_count_0 : decode cX3_count 0 = .ok (.iload_n 1, 1) := by decide +kernel
theorem dX3_count_1 : decode cX3_count 1 = .ok (.tableswitch 171 0 12 #[67, 75, 86, 94, 102, 110, 118, 126, 134, 142, 150, 158, 166], 67) := by decide +kernel
theorem dX3_count_68 : decode cX3_count 68 = .ok (.aload_n 0, 1) := by decide +kernel
theorem dX3_count_69 : decode cX3_count 69 = .ok (.getfield 12, 3) := by decide +kernel
theorem dX3_count_72 : decode cX3_count 72 = .ok (.getfield 40, 3) := by decide +kernel
theorem dX3_count_75 : decode cX3_count 75 = .ok (.ireturn, 1) := by decide +kernel
theorem dX3_count_76 : decode cX3_count 76 = .ok (.aload_n 0, 1) := by decide +kernel
theorem dX3_count_77 : decode cX3_count 77 = .ok (.getfield 12, 3) := by decide +kernel
theorem dX3_count_80 : decode cX3_count 80 = .ok (.getfield 40, 3) := by decide +kernel
theorem dX3_count_83 : decode cX3_count 83 = .ok (.invokestatic 76, 3) := by decide +kernel
theorem dX3_count_86 : decode cX3_count 86 = .ok (.ireturn, 1) := by decide +kernel
theorem dX3_count_87 : decode cX3_count 87 = .ok (.aload_n 0, 1) := by decide +kernel
theorem dX3_count_88 : decode cX3_count 88 = .ok (.getfield 12, 3) := by decide +kernel
theorem dX3_count_91 : decode cX3_count 91 = .ok (.invokevirtual 161, 3) := by decide +kernel
theorem dX3_count_94 : decode cX3_count 94 = .ok (.ireturn, 1) := by decide +kernel
theorem dX3_count_95 : decode cX3_count 95 = .ok (.aload_n 0, 1) := by decide +kernel
theorem dX3_count_96 : decode cX3_count 96 = .ok (.getfield 12, 3) := by decide +kernel
theorem dX3_count_99 : decode cX3_count 99 = .ok (.getfield 165, 3) := by decide +kernel
theorem dX3_count_102 : decode cX3_count 102 = .ok (.ireturn, 1) := by decide +kernel
theorem dX3_count_103 : decode cX3_count 103 = .ok (.aload_n 0, 1) := by decide +kernel
theorem dX3_count_104 : decode cX3_count 104 = .ok (.getfield 12, 3) := by decide +kernel
theorem dX3_count_107 : decode cX3_count 107 = .ok (.invokevirtual 168, 3) := by decide +kernel
theorem dX3_count_110 : decode cX3_count 110 = .ok (.ireturn, 1) := by decide +kernel
theorem dX3_count_111 : decode cX3_count 111 = .ok (.aload_n 0, 1) := by decide +kernel
theorem dX3_count_112 : decode cX3_count 112 = .ok (.getfield 12, 3) := by decide +kernel
theorem dX3_count_115 : decode cX3_count 115 = .ok (.getfield 171, 3) := by decide +kernel
theorem dX3_count_118 : decode cX3_count 118 = .ok (.ireturn, 1) := by decide +kernel
theorem dX3_count_119 : decode cX3_count 119 = .ok (.aload_n 0, 1) := by decide +kernel
theorem dX3_count_120 : decode cX3_count 120 = .ok (.getfield 12, 3) := by decide +kernel
theorem dX3_count_123 : decode cX3_count 123 = .ok (.getfield 174, 3) := by decide +kernel
theorem dX3_count_126 : decode cX3_count 126 = .ok (.ireturn, 1) := by decide +kernel
theorem dX3_count_127 : decode cX3_count 127 = .ok (.aload_n 0, 1) := by decide +kernel
theorem dX3_count_128 : decode cX3_count 128 = .ok (.getfield 12, 3) := by decide +kernel
theorem dX3_count_131 : decode cX3_count 131 = .ok (.getfield 177, 3) := by decide +kernel
theorem dX3_count_134 : decode cX3_count 134 = .ok (.ireturn, 1) := by decide +kernel
theorem dX3_count_135 : decode cX3_count 135 = .ok (.aload_n 0, 1) := by decide +kernel
theorem dX3_count_136 : decode cX3_count 136 = .ok (.getfield 12, 3) := by decide +kernel
theorem dX3_count_139 : decode cX3_count 139 = .ok (.invokevirtual 180, 3) := by decide +kernel
theorem dX3_count_142 : decode cX3_count 142 = .ok (.ireturn, 1) := by decide +kernel
theorem dX3_count_143 : decode cX3_count 143 = .ok (.aload_n 0, 1) := by decide +kernel
theorem dX3_count_144 : decode cX3_count 144 = .ok (.getfield 12, 3) := by decide +kernel
theorem dX3_count_147 : decode cX3_count 147 = .ok (.getfield 47, 3) := by decide +kernel
theorem dX3_count_150 : decode cX3_count 150 = .ok (.ireturn, 1) := by decide +kernel
theorem dX3_count_151 : decode cX3_count 151 = .ok (.aload_n 0, 1) := by decide +kernel
theorem dX3_count_152 : decode cX3_count 152 = .ok (.getfield 12, 3) := by decide +kernel
theorem dX3_count_155 : decode cX3_count 155 = .ok (.getfield 50, 3) := by decide +kernel
theorem dX3_count_158 : decode cX3_count 158 = .ok (.ireturn, 1) := by decide +kernel
theorem dX3_count_159 : decode cX3_count 159 = .ok (.aload_n 0, 1) := by decide +kernel
theorem dX3_count_160 : decode cX3_count 160 = .ok (.getfield 29, 3) := by decide +kernel
theorem dX3_count_163 : decode cX3_count 163 = .ok (.getfield 183, 3) := by decide +kernel
theorem dX3_count_166 : decode cX3_count 166 = .ok (.ireturn, 1) := by decide +kernel
theorem dX3_count_167 : decode cX3_count 167 = .ok (.aload_n 0, 1) := by decide +kernel
theorem dX3_count_168 : decode cX3_count 168 = .ok (.getfield 186, 3) := by decide +kernel
theorem dX3_count_171 : decode cX3_count 171 = .ok (.ireturn, 1) := by decide +kernel
theorem dX3_count_172 : decode cX3_count 172 = .ok (.bipush (-2), 2) := by decide +kernel
theorem dX3_count_174 : decode cX3_count 174 = .ok (.ireturn, 1) := by decide +kernel
theorem dX3_sizeAs_0 : decode cX3_sizeAs 0 = .ok (.iload_n 1, 1) := by decide +kernel
theorem dX3_sizeAs_1 : decode cX3_sizeAs 1 = .ok (.invokestatic 137, 3) := by decide +kernel
theorem dX3_sizeAs_4 : decode cX3_sizeAs 4 = .ok (.ifCond .ne 5, 3) := by decide +kernel
theorem dX3_sizeAs_7 : decode cX3_sizeAs 7 = .ok (.iconst (-1), 1) := by decide +kernel
theorem dX3_sizeAs_8 : decode cX3_sizeAs 8 = .ok (.ireturn, 1) := by decide +kernel
theorem dX3_sizeAs_9 : decode cX3_sizeAs 9 = .ok (.iload_n 2, 1) := by decide +kernel
theorem dX3_sizeAs_10 : decode cX3_sizeAs 10 = .ok (.ifCond .lt 8, 3) := by decide +kernel
theorem dX3_sizeAs_13 : decode cX3_sizeAs 13 = .ok (.iload_n 2, 1) := by decide +kernel
theorem dX3_sizeAs_14 : decode cX3_sizeAs 14 = .ok (.iconst 4, 1) := by decide +kernel
theorem dX3_sizeAs_15 : decode cX3_sizeAs 15 = .ok (.if_icmp .le 6, 3) := by decide +kernel
theorem dX3_sizeAs_18 : decode cX3_sizeAs 18 = .ok (.bipush (-2), 2) := by decide +kernel
theorem dX3_sizeAs_20 : decode cX3_sizeAs 20 = .ok (.ireturn, 1) := by decide +kernel
theorem dX3_sizeAs_21 : decode cX3_sizeAs 21 = .ok (.aload_n 0, 1) := by decide +kernel
theorem dX3_sizeAs_22 : decode cX3_sizeAs 22 = .ok (.getfield 12, 3) := by decide +kernel
theorem dX3_sizeAs_25 : decode cX3_sizeAs 25 = .ok (.iload_n 1, 1) := by decide +kernel
theorem dX3_sizeAs_26 : decode cX3_sizeAs 26 = .ok (.iload_n 2, 1) := by decide +kernel
theorem dX3_sizeAs_27 : decode cX3_sizeAs 27 = .ok (.aload_n 0, 1) := by decide +kernel
theorem dX3_sizeAs_28 : decode cX3_sizeAs 28 = .ok (.getfield 12, 3) := by decide +kernel
theorem dX3_sizeAs_31 : decode cX3_sizeAs 31 = .ok (.iload_n 1, 1) := by decide +kernel
theorem dX3_sizeAs_32 : decode cX3_sizeAs 32 = .ok (.bipush (-6), 2) := by decide +kernel
theorem dX3_sizeAs_34 : decode cX3_sizeAs 34 = .ok (.invokevirtual 189, 3) := by decide +kernel
theorem dX3_sizeAs_37 : decode cX3_sizeAs 37 = .ok (.invokevirtual 192, 3) := by decide +kernel
theorem dX3_sizeAs_40 : decode cX3_sizeAs 40 = .ok (.ireturn, 1) := by decide +kernel
theorem dX3_workOf_0 : decode cX3_workOf 0 = .ok (.iload_n 1, 1) := by decide +kernel
theorem dX3_workOf_1 : decode cX3_workOf 1 = .ok (.iload_n 2, 1) := by decide +kernel
theorem dX3_workOf_2 : decode cX3_workOf 2 = .ok (.invokestatic 116, 3) := by decide +kernel
theorem dX3_workOf_5 : decode cX3_workOf 5 = .ok (.istore_n 3, 1) := by decide +kernel
theorem dX3_workOf_6 : decode cX3_workOf 6 = .ok (.iload_n 3, 1) := by decide +kernel
theorem dX3_workOf_7 : decode cX3_workOf 7 = .ok (.ifCond .eq 5, 3) := by decide +kernel
theorem dX3_workOf_10 : decode cX3_workOf 10 = .ok (.iload_n 3, 1) := by decide +kernel
theorem dX3_workOf_11 : decode cX3_workOf 11 = .ok (.ireturn, 1) := by decide +kernel
theorem dX3_workOf_12 : decode cX3_workOf 12 = .ok (.aload_n 0, 1) := by decide +kernel
theorem dX3_workOf_13 : decode cX3_workOf 13 = .ok (.getfield 12, 3) := by decide +kernel
theorem dX3_workOf_16 : decode cX3_workOf 16 = .ok (.aload_n 0, 1) := by decide +kernel
theorem dX3_workOf_17 : decode cX3_workOf 17 = .ok (.getfield 16, 3) := by decide +kernel
theorem dX3_workOf_20 : decode cX3_workOf 20 = .ok (.invokestatic 195, 3) := by decide +kernel
theorem dX3_workOf_23 : decode cX3_workOf 23 = .ok (.aload_n 0, 1) := by decide +kernel
theorem dX3_workOf_24 : decode cX3_workOf 24 = .ok (.getfield 16, 3) := by decide +kernel
theorem dX3_workOf_27 : decode cX3_workOf 27 = .ok (.iload_n 1, 1) := by decide +kernel
theorem dX3_workOf_28 : decode cX3_workOf 28 = .ok (.iload_n 2, 1) := by decide +kernel
theorem dX3_workOf_29 : decode cX3_workOf 29 = .ok (.invokevirtual 112, 3) := by decide +kernel
theorem dX3_workOf_32 : decode cX3_workOf 32 = .ok (.aload_n 0, 1) := by decide +kernel
theorem dX3_workOf_33 : decode cX3_workOf 33 = .ok (.getfield 16, 3) := by decide +kernel
theorem dX3_workOf_36 : decode cX3_workOf 36 = .ok (.getfield 171, 3) := by decide +kernel
theorem dX3_workOf_39 : decode cX3_workOf 39 = .ok (.aload_n 0, 1) := by decide +kernel
theorem dX3_workOf_40 : decode cX3_workOf 40 = .ok (.getfield 12, 3) := by decide +kernel
theorem dX3_workOf_43 : decode cX3_workOf 43 = .ok (.getfield 171, 3) := by decide +kernel
theorem dX3_workOf_46 : decode cX3_workOf 46 = .ok (.isub, 1) := by decide +kernel
theorem dX3_workOf_47 : decode cX3_workOf 47 = .ok (.ireturn, 1) := by decide +kernel
theorem dX3_bestOpen_0 : decode cX3_bestOpen 0 = .ok (.iload_n 1, 1) := by decide +kernel
theorem dX3_bestOpen_1 : decode cX3_bestOpen 1 = .ok (.iload_n 2, 1) := by decide +kernel
theorem dX3_bestOpen_2 : decode cX3_bestOpen 2 = .ok (.invokestatic 116, 3) := by decide +kernel
theorem dX3_bestOpen_5 : decode cX3_bestOpen 5 = .ok (.istore_n 3, 1) := by decide +kernel
theorem dX3_bestOpen_6 : decode cX3_bestOpen 6 = .ok (.iload_n 3, 1) := by decide +kernel
theorem dX3_bestOpen_7 : decode cX3_bestOpen 7 = .ok (.ifCond .eq 5, 3) := by decide +kernel
theorem dX3_bestOpen_10 : decode cX3_bestOpen 10 = .ok (.iload_n 3, 1) := by decide +kernel
theorem dX3_bestOpen_11 : decode cX3_bestOpen 11 = .ok (.ireturn, 1) := by decide +kernel
theorem dX3_bestOpen_12 : decode cX3_bestOpen 12 = .ok (.iconst 0, 1) := by decide +kernel
theorem dX3_bestOpen_13 : decode cX3_bestOpen 13 = .ok (.istore 4, 2) := by decide +kernel
theorem dX3_bestOpen_15 : decode cX3_bestOpen 15 = .ok (.iconst 0, 1) := by decide +kernel
theorem dX3_bestOpen_16 : decode cX3_bestOpen 16 = .ok (.istore 5, 2) := by decide +kernel
theorem dX3_bestOpen_18 : decode cX3_bestOpen 18 = .ok (.iconst 0, 1) := by decide +kernel
theorem dX3_bestOpen_19 : decode cX3_bestOpen 19 = .ok (.istore 6, 2) := by decide +kernel
theorem dX3_bestOpen_21 : decode cX3_bestOpen 21 = .ok (.iload 6, 2) := by decide +kernel
theorem dX3_bestOpen_23 : decode cX3_bestOpen 23 = .ok (.bipush 6, 2) := by decide +kernel
theorem dX3_bestOpen_25 : decode cX3_bestOpen 25 = .ok (.if_icmp .gt 91, 3) := by decide +kernel
theorem dX3_bestOpen_28 : decode cX3_bestOpen 28 = .ok (.aload_n 0, 1) := by decide +kernel
theorem dX3_bestOpen_29 : decode cX3_bestOpen 29 = .ok (.getfield 12, 3) := by decide +kernel
theorem dX3_bestOpen_32 : decode cX3_bestOpen 32 = .ok (.aload_n 0, 1) := by decide +kernel
theorem dX3_bestOpen_33 : decode cX3_bestOpen 33 = .ok (.getfield 16, 3) := by decide +kernel
theorem dX3_bestOpen_36 : decode cX3_bestOpen 36 = .ok (.invokestatic 195, 3) := by decide +kernel
theorem dX3_bestOpen_39 : decode cX3_bestOpen 39 = .ok (.aload_n 0, 1) := by decide +kernel
theorem dX3_bestOpen_40 : decode cX3_bestOpen 40 = .ok (.getfield 16, 3) := by decide +kernel
theorem dX3_bestOpen_43 : decode cX3_bestOpen 43 = .ok (.iload 6, 2) := by decide +kernel
theorem dX3_bestOpen_45 : decode cX3_bestOpen 45 = .ok (.putfield 50, 3) := by decide +kernel
theorem dX3_bestOpen_48 : decode cX3_bestOpen 48 = .ok (.aload_n 0, 1) := by decide +kernel
theorem dX3_bestOpen_49 : decode cX3_bestOpen 49 = .ok (.getfield 16, 3) := by decide +kernel
theorem dX3_bestOpen_52 : decode cX3_bestOpen 52 = .ok (.invokevirtual 53, 3) := by decide +kernel
theorem dX3_bestOpen_55 : decode cX3_bestOpen 55 = .ok (.aload_n 0, 1) := by decide +kernel
theorem dX3_bestOpen_56 : decode cX3_bestOpen 56 = .ok (.getfield 16, 3) := by decide +kernel
theorem dX3_bestOpen_59 : decode cX3_bestOpen 59 = .ok (.iload_n 1, 1) := by decide +kernel
theorem dX3_bestOpen_60 : decode cX3_bestOpen 60 = .ok (.iload_n 2, 1) := by decide +kernel
theorem dX3_bestOpen_61 : decode cX3_bestOpen 61 = .ok (.invokevirtual 112, 3) := by decide +kernel
theorem dX3_bestOpen_64 : decode cX3_bestOpen 64 = .ok (.aload_n 0, 1) := by decide +kernel
theorem dX3_bestOpen_65 : decode cX3_bestOpen 65 = .ok (.getfield 16, 3) := by decide +kernel
theorem dX3_bestOpen_68 : decode cX3_bestOpen 68 = .ok (.iload_n 1, 1) := by decide +kernel
theorem dX3_bestOpen_69 : decode cX3_bestOpen 69 = .ok (.iload_n 2, 1) := by decide +kernel
theorem dX3_bestOpen_70 : decode cX3_bestOpen 70 = .ok (.invokevirtual 112, 3) := by decide +kernel
theorem dX3_bestOpen_73 : decode cX3_bestOpen 73 = .ok (.aload_n 0, 1) := by decide +kernel
theorem dX3_bestOpen_74 : decode cX3_bestOpen 74 = .ok (.getfield 16, 3) := by decide +kernel
theorem dX3_bestOpen_77 : decode cX3_bestOpen 77 = .ok (.getfield 171, 3) := by decide +kernel
theorem dX3_bestOpen_80 : decode cX3_bestOpen 80 = .ok (.aload_n 0, 1) := by decide +kernel
theorem dX3_bestOpen_81 : decode cX3_bestOpen 81 = .ok (.getfield 12, 3) := by decide +kernel
theorem dX3_bestOpen_84 : decode cX3_bestOpen 84 = .ok (.getfield 171, 3) := by decide +kernel
theorem dX3_bestOpen_87 : decode cX3_bestOpen 87 = .ok (.isub, 1) := by decide +kernel
theorem dX3_bestOpen_88 : decode cX3_bestOpen 88 = .ok (.istore 7, 2) := by decide +kernel
theorem dX3_bestOpen_90 : decode cX3_bestOpen 90 = .ok (.iload 6, 2) := by decide +kernel
theorem dX3_bestOpen_92 : decode cX3_bestOpen 92 = .ok (.ifCond .eq 10, 3) := by decide +kernel
theorem dX3_bestOpen_95 : decode cX3_bestOpen 95 = .ok (.iload 7, 2) := by decide +kernel
theorem dX3_bestOpen_97 : decode cX3_bestOpen 97 = .ok (.iload 5, 2) := by decide +kernel
theorem dX3_bestOpen_99 : decode cX3_bestOpen 99 = .ok (.if_icmp .ge 11, 3) := by decide +kernel
theorem dX3_bestOpen_102 : decode cX3_bestOpen 102 = .ok (.iload 7, 2) := by decide +kernel
theorem dX3_bestOpen_104 : decode cX3_bestOpen 104 = .ok (.istore 5, 2) := by decide +kernel
theorem dX3_bestOpen_106 : decode cX3_bestOpen 106 = .ok (.iload 6, 2) := by decide +kernel
theorem dX3_bestOpen_108 : decode cX3_bestOpen 108 = .ok (.istore 4, 2) := by decide +kernel
theorem dX3_bestOpen_110 : decode cX3_bestOpen 110 = .ok (.iinc 6 1, 3) := by decide +kernel
theorem dX3_bestOpen_113 : decode cX3_bestOpen 113 = .ok (.goto (-92), 3) := by decide +kernel
theorem dX3_bestOpen_116 : decode cX3_bestOpen 116 = .ok (.iload 4, 2) := by decide +kernel
theorem dX3_bestOpen_118 : decode cX3_bestOpen 118 = .ok (.ireturn, 1) := by decide +kernel
theorem dX3_put_0 : decode cX3_put 0 = .ok (.lload_n 1, 1) := by decide +kernel
theorem dX3_put_1 : decode cX3_put 1 = .ok (.invokestatic 199, 3) := by decide +kernel
theorem dX3_put_4 : decode cX3_put 4 = .ok (.istore_n 3, 1) := by decide +kernel
theorem dX3_put_5 : decode cX3_put 5 = .ok (.iload_n 3, 1) := by decide +kernel
theorem dX3_put_6 : decode cX3_put 6 = .ok (.ifCond .ne 6, 3) := by decide +kernel
theorem dX3_put_9 : decode cX3_put 9 = .ok (.bipush (-2), 2) := by decide +kernel
theorem dX3_put_11 : decode cX3_put 11 = .ok (.ireturn, 1) := by decide +kernel
theorem dX3_put_12 : decode cX3_put 12 = .ok (.aload_n 0, 1) := by decide +kernel
theorem dX3_put_13 : decode cX3_put 13 = .ok (.getfield 29, 3) := by decide +kernel
theorem dX3_put_16 : decode cX3_put 16 = .ok (.getfield 183, 3) := by decide +kernel
theorem dX3_put_19 : decode cX3_put 19 = .ok (.iload_n 3, 1) := by decide +kernel
theorem dX3_put_20 : decode cX3_put 20 = .ok (.iadd, 1) := by decide +kernel
theorem dX3_put_21 : decode cX3_put 21 = .ok (.bipush 80, 2) := by decide +kernel
theorem dX3_put_23 : decode cX3_put 23 = .ok (.if_icmp .le 6, 3) := by decide +kernel
theorem dX3_put_26 : decode cX3_put 26 = .ok (.bipush (-4), 2) := by decide +kernel
theorem dX3_put_28 : decode cX3_put 28 = .ok (.ireturn, 1) := by decide +kernel
theorem dX3_put_29 : decode cX3_put 29 = .ok (.aload_n 0, 1) := by decide +kernel
theorem dX3_put_30 : decode cX3_put 30 = .ok (.getfield 29, 3) := by decide +kernel
theorem dX3_put_33 : decode cX3_put 33 = .ok (.lload_n 1, 1) := by decide +kernel
theorem dX3_put_34 : decode cX3_put 34 = .ok (.iload_n 3, 1) := by decide +kernel
theorem dX3_put_35 : decode cX3_put 35 = .ok (.invokevirtual 203, 3) := by decide +kernel
theorem dX3_put_38 : decode cX3_put 38 = .ok (.aload_n 0, 1) := by decide +kernel
theorem dX3_put_39 : decode cX3_put 39 = .ok (.getfield 29, 3) := by decide +kernel
theorem dX3_put_42 : decode cX3_put 42 = .ok (.getfield 183, 3) := by decide +kernel
theorem dX3_put_45 : decode cX3_put 45 = .ok (.ireturn, 1) := by decide +kernel
theorem dX3_wipe_0 : decode cX3_wipe 0 = .ok (.aload_n 0, 1) := by decide +kernel
theorem dX3_wipe_1 : decode cX3_wipe 1 = .ok (.getfield 29, 3) := by decide +kernel
theorem dX3_wipe_4 : decode cX3_wipe 4 = .ok (.getfield 183, 3) := by decide +kernel
theorem dX3_wipe_7 : decode cX3_wipe 7 = .ok (.istore_n 1, 1) := by decide +kernel
theorem dX3_wipe_8 : decode cX3_wipe 8 = .ok (.aload_n 0, 1) := by decide +kernel
theorem dX3_wipe_9 : decode cX3_wipe 9 = .ok (.getfield 29, 3) := by decide +kernel
theorem dX3_wipe_12 : decode cX3_wipe 12 = .ok (.iconst 0, 1) := by decide +kernel
theorem dX3_wipe_13 : decode cX3_wipe 13 = .ok (.putfield 183, 3) := by decide +kernel
theorem dX3_wipe_16 : decode cX3_wipe 16 = .ok (.iload_n 1, 1) := by decide +kernel
theorem dX3_wipe_17 : decode cX3_wipe 17 = .ok (.ireturn, 1) := by decide +kernel
theorem dX3_fault_0 : decode cX3_fault 0 = .ok (.aload_n 0, 1) := by decide +kernel
theorem dX3_fault_1 : decode cX3_fault 1 = .ok (.getfield 29, 3) := by decide +kernel
theorem dX3_fault_4 : decode cX3_fault 4 = .ok (.invokevirtual 207, 3) := by decide +kernel
theorem dX3_fault_7 : decode cX3_fault 7 = .ok (.ireturn, 1) := by decide +kernel
theorem dX3_carryOut_0 : decode cX3_carryOut 0 = .ok (.aload_n 0, 1) := by decide +kernel
theorem dX3_carryOut_1 : decode cX3_carryOut 1 = .ok (.getfield 29, 3) := by decide +kernel
theorem dX3_carryOut_4 : decode cX3_carryOut 4 = .ok (.invokevirtual 207, 3) := by decide +kernel
theorem dX3_carryOut_7 : decode cX3_carryOut 7 = .ok (.bipush (-6), 2) := by decide +kernel
theorem dX3_carryOut_9 : decode cX3_carryOut 9 = .ok (.if_icmp .eq 6, 3) := by decide +kernel
theorem dX3_carryOut_12 : decode cX3_carryOut 12 = .ok (.bipush (-3), 2) := by decide +kernel
theorem dX3_carryOut_14 : decode cX3_carryOut 14 = .ok (.ireturn, 1) := by decide +kernel
theorem dX3_carryOut_15 : decode cX3_carryOut 15 = .ok (.aload_n 0, 1) := by decide +kernel
theorem dX3_carryOut_16 : decode cX3_carryOut 16 = .ok (.invokevirtual 44, 3) := by decide +kernel
theorem dX3_carryOut_19 : decode cX3_carryOut 19 = .ok (.aload_n 0, 1) := by decide +kernel
theorem dX3_carryOut_20 : decode cX3_carryOut 20 = .ok (.getfield 29, 3) := by decide +kernel
theorem dX3_carryOut_23 : decode cX3_carryOut 23 = .ok (.getfield 210, 3) := by decide +kernel
theorem dX3_carryOut_26 : decode cX3_carryOut 26 = .ok (.istore_n 1, 1) := by decide +kernel
theorem dX3_carryOut_27 : decode cX3_carryOut 27 = .ok (.iconst 0, 1) := by decide +kernel
theorem dX3_carryOut_28 : decode cX3_carryOut 28 = .ok (.istore_n 2, 1) := by decide +kernel
theorem dX3_carryOut_29 : decode cX3_carryOut 29 = .ok (.iload_n 2, 1) := by decide +kernel
theorem dX3_carryOut_30 : decode cX3_carryOut 30 = .ok (.aload_n 0, 1) := by decide +kernel
theorem dX3_carryOut_31 : decode cX3_carryOut 31 = .ok (.getfield 29, 3) := by decide +kernel
theorem dX3_carryOut_34 : decode cX3_carryOut 34 = .ok (.getfield 213, 3) := by decide +kernel
theorem dX3_carryOut_37 : decode cX3_carryOut 37 = .ok (.if_icmp .ge 38, 3) := by decide +kernel
theorem dX3_carryOut_40 : decode cX3_carryOut 40 = .ok (.aload_n 0, 1) := by decide +kernel
theorem dX3_carryOut_41 : decode cX3_carryOut 41 = .ok (.getfield 29, 3) := by decide +kernel
theorem dX3_carryOut_44 : decode cX3_carryOut 44 = .ok (.iload_n 2, 1) := by decide +kernel
theorem dX3_carryOut_45 : decode cX3_carryOut 45 = .ok (.invokevirtual 216, 3) := by decide +kernel
theorem dX3_carryOut_48 : decode cX3_carryOut 48 = .ok (.astore_n 3, 1) := by decide +kernel
theorem dX3_carryOut_49 : decode cX3_carryOut 49 = .ok (.aload_n 3, 1) := by decide +kernel
theorem dX3_carryOut_50 : decode cX3_carryOut 50 = .ok (.ifnull 19, 3) := by decide +kernel
theorem dX3_carryOut_53 : decode cX3_carryOut 53 = .ok (.aload_n 0, 1) := by decide +kernel
theorem dX3_carryOut_54 : decode cX3_carryOut 54 = .ok (.aload_n 3, 1) := by decide +kernel
theorem dX3_carryOut_55 : decode cX3_carryOut 55 = .ok (.invokevirtual 220, 3) := by decide +kernel
theorem dX3_carryOut_58 : decode cX3_carryOut 58 = .ok (.ifCond .ge 11, 3) := by decide +kernel
theorem dX3_carryOut_61 : decode cX3_carryOut 61 = .ok (.aload_n 3, 1) := by decide +kernel
theorem dX3_carryOut_62 : decode cX3_carryOut 62 = .ok (.getfield 224, 3) := by decide +kernel
theorem dX3_carryOut_65 : decode cX3_carryOut 65 = .ok (.istore_n 1, 1) := by decide +kernel
theorem dX3_carryOut_66 : decode cX3_carryOut 66 = .ok (.goto 9, 3) := by decide +kernel
theorem dX3_carryOut_69 : decode cX3_carryOut 69 = .ok (.iinc 2 1, 3) := by decide +kernel
theorem dX3_carryOut_72 : decode cX3_carryOut 72 = .ok (.goto (-43), 3) := by decide +kernel
theorem dX3_carryOut_75 : decode cX3_carryOut 75 = .ok (.aload_n 0, 1) := by decide +kernel
theorem dX3_carryOut_76 : decode cX3_carryOut 76 = .ok (.getfield 29, 3) := by decide +kernel
theorem dX3_carryOut_79 : decode cX3_carryOut 79 = .ok (.iconst 0, 1) := by decide +kernel
theorem dX3_carryOut_80 : decode cX3_carryOut 80 = .ok (.putfield 183, 3) := by decide +kernel
theorem dX3_carryOut_83 : decode cX3_carryOut 83 = .ok (.iload_n 1, 1) := by decide +kernel
theorem dX3_carryOut_84 : decode cX3_carryOut 84 = .ok (.ireturn, 1) := by decide +kernel
theorem dX3_carryStep_0 : decode cX3_carryStep 0 = .ok (.aload_n 1, 1) := by decide +kernel
theorem dX3_carryStep_1 : decode cX3_carryStep 1 = .ok (.getfield 229, 3) := by decide +kernel
theorem dX3_carryStep_4 : decode cX3_carryStep 4 = .ok (.bipush 112, 2) := by decide +kernel
theorem dX3_carryStep_6 : decode cX3_carryStep 6 = .ok (.if_icmp .ne 32, 3) := by decide +kernel
theorem dX3_carryStep_9 : decode cX3_carryStep 9 = .ok (.aload_n 0, 1) := by decide +kernel
theorem dX3_carryStep_10 : decode cX3_carryStep 10 = .ok (.aload_n 1, 1) := by decide +kernel
theorem dX3_carryStep_11 : decode cX3_carryStep 11 = .ok (.getfield 233, 3) := by decide +kernel
theorem dX3_carryStep_14 : decode cX3_carryStep 14 = .ok (.invokevirtual 56, 3) := by decide +kernel
theorem dX3_carryStep_17 : decode cX3_carryStep 17 = .ok (.istore_n 2, 1) := by decide +kernel
theorem dX3_carryStep_18 : decode cX3_carryStep 18 = .ok (.iload_n 2, 1) := by decide +kernel
theorem dX3_carryStep_19 : decode cX3_carryStep 19 = .ok (.ifCond .ne 17, 3) := by decide +kernel
theorem dX3_carryStep_22 : decode cX3_carryStep 22 = .ok (.aload_n 0, 1) := by decide +kernel
theorem dX3_carryStep_23 : decode cX3_carryStep 23 = .ok (.getfield 12, 3) := by decide +kernel
theorem dX3_carryStep_26 : decode cX3_carryStep 26 = .ok (.aload_n 1, 1) := by decide +kernel
theorem dX3_carryStep_27 : decode cX3_carryStep 27 = .ok (.getfield 233, 3) := by decide +kernel
theorem dX3_carryStep_30 : decode cX3_carryStep 30 = .ok (.invokevirtual 59, 3) := by decide +kernel
theorem dX3_carryStep_33 : decode cX3_carryStep 33 = .ok (.goto 4, 3) := by decide +kernel
theorem dX3_carryStep_36 : decode cX3_carryStep 36 = .ok (.iload_n 2, 1) := by decide +kernel
theorem dX3_carryStep_37 : decode cX3_carryStep 37 = .ok (.ireturn, 1) := by decide +kernel
theorem dX3_carryStep_38 : decode cX3_carryStep 38 = .ok (.aload_n 0, 1) := by decide +kernel
theorem dX3_carryStep_39 : decode cX3_carryStep 39 = .ok (.aload_n 1, 1) := by decide +kernel
theorem dX3_carryStep_40 : decode cX3_carryStep 40 = .ok (.getfield 236, 3) := by decide +kernel
theorem dX3_carryStep_43 : decode cX3_carryStep 43 = .ok (.aload_n 1, 1) := by decide +kernel
theorem dX3_carryStep_44 : decode cX3_carryStep 44 = .ok (.getfield 233, 3) := by decide +kernel
theorem dX3_carryStep_47 : decode cX3_carryStep 47 = .ok (.aload_n 1, 1) := by decide +kernel
theorem dX3_carryStep_48 : decode cX3_carryStep 48 = .ok (.getfield 239, 3) := by decide +kernel
theorem dX3_carryStep_51 : decode cX3_carryStep 51 = .ok (.invokevirtual 66, 3) := by decide +kernel
theorem dX3_carryStep_54 : decode cX3_carryStep 54 = .ok (.istore_n 2, 1) := by decide +kernel
theorem dX3_carryStep_55 : decode cX3_carryStep 55 = .ok (.iload_n 2, 1) := by decide +kernel
theorem dX3_carryStep_56 : decode cX3_carryStep 56 = .ok (.ifCond .eq 5, 3) := by decide +kernel
theorem dX3_carryStep_59 : decode cX3_carryStep 59 = .ok (.iload_n 2, 1) := by decide +kernel
theorem dX3_carryStep_60 : decode cX3_carryStep 60 = .ok (.ireturn, 1) := by decide +kernel
theorem dX3_carryStep_61 : decode cX3_carryStep 61 = .ok (.aload_n 0, 1) := by decide +kernel
theorem dX3_carryStep_62 : decode cX3_carryStep 62 = .ok (.getfield 12, 3) := by decide +kernel
theorem dX3_carryStep_65 : decode cX3_carryStep 65 = .ok (.aload_n 1, 1) := by decide +kernel
theorem dX3_carryStep_66 : decode cX3_carryStep 66 = .ok (.getfield 236, 3) := by decide +kernel
theorem dX3_carryStep_69 : decode cX3_carryStep 69 = .ok (.aload_n 1, 1) := by decide +kernel
theorem dX3_carryStep_70 : decode cX3_carryStep 70 = .ok (.getfield 233, 3) := by decide +kernel
theorem dX3_carryStep_73 : decode cX3_carryStep 73 = .ok (.aload_n 1, 1) := by decide +kernel
theorem dX3_carryStep_74 : decode cX3_carryStep 74 = .ok (.getfield 239, 3) := by decide +kernel
theorem dX3_carryStep_77 : decode cX3_carryStep 77 = .ok (.aload_n 1, 1) := by decide +kernel
theorem dX3_carryStep_78 : decode cX3_carryStep 78 = .ok (.getfield 229, 3) := by decide +kernel
theorem dX3_carryStep_81 : decode cX3_carryStep 81 = .ok (.bipush 109, 2) := by decide +kernel
theorem dX3_carryStep_83 : decode cX3_carryStep 83 = .ok (.if_icmp .ne 7, 3) := by decide +kernel
theorem dX3_carryStep_86 : decode cX3_carryStep 86 = .ok (.iconst 1, 1) := by decide +kernel
theorem dX3_carryStep_87 : decode cX3_carryStep 87 = .ok (.goto 4, 3) := by decide +kernel
theorem dX3_carryStep_90 : decode cX3_carryStep 90 = .ok (.iconst 0, 1) := by decide +kernel
theorem dX3_carryStep_91 : decode cX3_carryStep 91 = .ok (.invokevirtual 70, 3) := by decide +kernel
theorem dX3_carryStep_94 : decode cX3_carryStep 94 = .ok (.ireturn, 1) := by decide +kernel
theorem dX3_undo_0 : decode cX3_undo 0 = .ok (.aload_n 0, 1) := by decide +kernel
theorem dX3_undo_1 : decode cX3_undo 1 = .ok (.getfield 186, 3) := by decide +kernel
theorem dX3_undo_4 : decode cX3_undo 4 = .ok (.ifCond .gt 6, 3) := by decide +kernel
theorem dX3_undo_7 : decode cX3_undo 7 = .ok (.bipush (-5), 2) := by decide +kernel
theorem dX3_undo_9 : decode cX3_undo 9 = .ok (.ireturn, 1) := by decide +kernel
theorem dX3_undo_10 : decode cX3_undo 10 = .ok (.aload_n 0, 1) := by decide +kernel
theorem dX3_undo_11 : decode cX3_undo 11 = .ok (.dup, 1) := by decide +kernel
theorem dX3_undo_12 : decode cX3_undo 12 = .ok (.getfield 186, 3) := by decide +kernel
theorem dX3_undo_15 : decode cX3_undo 15 = .ok (.iconst 1, 1) := by decide +kernel
theorem dX3_undo_16 : decode cX3_undo 16 = .ok (.isub, 1) := by decide +kernel
theorem dX3_undo_17 : decode cX3_undo 17 = .ok (.putfield 186, 3) := by decide +kernel
theorem dX3_undo_20 : decode cX3_undo 20 = .ok (.aload_n 0, 1) := by decide +kernel
theorem dX3_undo_21 : decode cX3_undo 21 = .ok (.getfield 19, 3) := by decide +kernel
theorem dX3_undo_24 : decode cX3_undo 24 = .ok (.aload_n 0, 1) := by decide +kernel
theorem dX3_undo_25 : decode cX3_undo 25 = .ok (.getfield 186, 3) := by decide +kernel
theorem dX3_undo_28 : decode cX3_undo 28 = .ok (.invokestatic 242, 3) := by decide +kernel
theorem dX3_undo_31 : decode cX3_undo 31 = .ok (.aload_n 0, 1) := by decide +kernel
theorem dX3_undo_32 : decode cX3_undo 32 = .ok (.getfield 12, 3) := by decide +kernel
theorem dX3_undo_35 : decode cX3_undo 35 = .ok (.invokestatic 195, 3) := by decide +kernel
theorem dX3_undo_38 : decode cX3_undo 38 = .ok (.aload_n 0, 1) := by decide +kernel
theorem dX3_undo_39 : decode cX3_undo 39 = .ok (.getfield 186, 3) := by decide +kernel
theorem dX3_undo_42 : decode cX3_undo 42 = .ok (.ireturn, 1) := by decide +kernel
theorem dX3_save_0 : decode cX3_save 0 = .ok (.iload_n 1, 1) := by decide +kernel
theorem dX3_save_1 : decode cX3_save 1 = .ok (.ifCond .lt 8, 3) := by decide +kernel
theorem dX3_save_4 : decode cX3_save 4 = .ok (.iload_n 1, 1) := by decide +kernel
theorem dX3_save_5 : decode cX3_save 5 = .ok (.iconst 2, 1) := by decide +kernel
theorem dX3_save_6 : decode cX3_save 6 = .ok (.if_icmp .lt 6, 3) := by decide +kernel
theorem dX3_save_9 : decode cX3_save 9 = .ok (.bipush (-2), 2) := by decide +kernel
theorem dX3_save_11 : decode cX3_save 11 = .ok (.ireturn, 1) := by decide +kernel
theorem dX3_save_12 : decode cX3_save 12 = .ok (.aload_n 0, 1) := by decide +kernel
theorem dX3_save_13 : decode cX3_save 13 = .ok (.getfield 12, 3) := by decide +kernel
theorem dX3_save_16 : decode cX3_save 16 = .ok (.aload_n 0, 1) := by decide +kernel
theorem dX3_save_17 : decode cX3_save 17 = .ok (.getfield 23, 3) := by decide +kernel
theorem dX3_save_20 : decode cX3_save 20 = .ok (.iload_n 1, 1) := by decide +kernel
theorem dX3_save_21 : decode cX3_save 21 = .ok (.invokestatic 242, 3) := by decide +kernel
theorem dX3_save_24 : decode cX3_save 24 = .ok (.invokestatic 195, 3) := by decide +kernel
theorem dX3_save_27 : decode cX3_save 27 = .ok (.aload_n 0, 1) := by decide +kernel
theorem dX3_save_28 : decode cX3_save 28 = .ok (.dup, 1) := by decide +kernel
theorem dX3_save_29 : decode cX3_save 29 = .ok (.getfield 246, 3) := by decide +kernel
theorem dX3_save_32 : decode cX3_save 32 = .ok (.iconst 1, 1) := by decide +kernel
theorem dX3_save_33 : decode cX3_save 33 = .ok (.iload_n 1, 1) := by decide +kernel
theorem dX3_save_34 : decode cX3_save 34 = .ok (.ishl, 1) := by decide +kernel
theorem dX3_save_35 : decode cX3_save 35 = .ok (.ior, 1) := by decide +kernel
theorem dX3_save_36 : decode cX3_save 36 = .ok (.putfield 246, 3) := by decide +kernel
theorem dX3_save_39 : decode cX3_save 39 = .ok (.aload_n 0, 1) := by decide +kernel
theorem dX3_save_40 : decode cX3_save 40 = .ok (.getfield 12, 3) := by decide +kernel
theorem dX3_save_43 : decode cX3_save 43 = .ok (.getfield 40, 3) := by decide +kernel
theorem dX3_save_46 : decode cX3_save 46 = .ok (.ireturn, 1) := by decide +kernel
theorem dX3_restore_0 : decode cX3_restore 0 = .ok (.iload_n 1, 1) := by decide +kernel
theorem dX3_restore_1 : decode cX3_restore 1 = .ok (.ifCond .lt 8, 3) := by decide +kernel
theorem dX3_restore_4 : decode cX3_restore 4 = .ok (.iload_n 1, 1) := by decide +kernel
theorem dX3_restore_5 : decode cX3_restore 5 = .ok (.iconst 2, 1) := by decide +kernel
theorem dX3_restore_6 : decode cX3_restore 6 = .ok (.if_icmp .lt 6, 3) := by decide +kernel
theorem dX3_restore_9 : decode cX3_restore 9 = .ok (.bipush (-2), 2) := by decide +kernel
theorem dX3_restore_11 : decode cX3_restore 11 = .ok (.ireturn, 1) := by decide +kernel
theorem dX3_restore_12 : decode cX3_restore 12 = .ok (.aload_n 0, 1) := by decide +kernel
theorem dX3_restore_13 : decode cX3_restore 13 = .ok (.getfield 246, 3) := by decide +kernel
theorem dX3_restore_16 : decode cX3_restore 16 = .ok (.iload_n 1, 1) := by decide +kernel
theorem dX3_restore_17 : decode cX3_restore 17 = .ok (.invokestatic 108, 3) := by decide +kernel
theorem dX3_restore_20 : decode cX3_restore 20 = .ok (.ifCond .ne 6, 3) := by decide +kernel
theorem dX3_restore_23 : decode cX3_restore 23 = .ok (.bipush (-5), 2) := by decide +kernel
theorem dX3_restore_25 : decode cX3_restore 25 = .ok (.ireturn, 1) := by decide +kernel
theorem dX3_restore_26 : decode cX3_restore 26 = .ok (.aload_n 0, 1) := by decide +kernel
theorem dX3_restore_27 : decode cX3_restore 27 = .ok (.invokevirtual 44, 3) := by decide +kernel
theorem dX3_restore_30 : decode cX3_restore 30 = .ok (.aload_n 0, 1) := by decide +kernel
theorem dX3_restore_31 : decode cX3_restore 31 = .ok (.getfield 23, 3) := by decide +kernel
theorem dX3_restore_34 : decode cX3_restore 34 = .ok (.iload_n 1, 1) := by decide +kernel
theorem dX3_restore_35 : decode cX3_restore 35 = .ok (.invokestatic 242, 3) := by decide +kernel
theorem dX3_restore_38 : decode cX3_restore 38 = .ok (.aload_n 0, 1) := by decide +kernel
theorem dX3_restore_39 : decode cX3_restore 39 = .ok (.getfield 12, 3) := by decide +kernel
theorem dX3_restore_42 : decode cX3_restore 42 = .ok (.invokestatic 195, 3) := by decide +kernel
theorem dX3_restore_45 : decode cX3_restore 45 = .ok (.aload_n 0, 1) := by decide +kernel
theorem dX3_restore_46 : decode cX3_restore 46 = .ok (.getfield 12, 3) := by decide +kernel
theorem dX3_restore_49 : decode cX3_restore 49 = .ok (.getfield 40, 3) := by decide +kernel
theorem dX3_restore_52 : decode cX3_restore 52 = .ok (.ireturn, 1) := by decide +kernel
theorem dX3_record_0 : decode cX3_record 0 = .ok (.aload_n 0, 1) := by decide +kernel
theorem dX3_record_1 : decode cX3_record 1 = .ok (.getfield 186, 3) := by decide +kernel
theorem dX3_record_4 : decode cX3_record 4 = .ok (.bipush 6, 2) := by decide +kernel
theorem dX3_record_6 : decode cX3_record 6 = .ok (.if_icmp .lt 17, 3) := by decide +kernel
theorem dX3_record_9 : decode cX3_record 9 = .ok (.aload_n 0, 1) := by decide +kernel
theorem dX3_record_10 : decode cX3_record 10 = .ok (.invokevirtual 249, 3) := by decide +kernel
theorem dX3_record_13 : decode cX3_record 13 = .ok (.aload_n 0, 1) := by decide +kernel
theorem dX3_record_14 : decode cX3_record 14 = .ok (.dup, 1) := by decide +kernel
theorem dX3_record_15 : decode cX3_record 15 = .ok (.getfield 186, 3) := by decide +kernel
theorem dX3_record_18 : decode cX3_record 18 = .ok (.iconst 1, 1) := by decide +kernel
theorem dX3_record_19 : decode cX3_record 19 = .ok (.isub, 1) := by decide +kernel
theorem dX3_record_20 : decode cX3_record 20 = .ok (.putfield 186, 3) := by decide +kernel
theorem dX3_record_23 : decode cX3_record 23 = .ok (.aload_n 0, 1) := by decide +kernel
theorem dX3_record_24 : decode cX3_record 24 = .ok (.getfield 12, 3) := by decide +kernel
theorem dX3_record_27 : decode cX3_record 27 = .ok (.aload_n 0, 1) := by decide +kernel
theorem dX3_record_28 : decode cX3_record 28 = .ok (.getfield 19, 3) := by decide +kernel
theorem dX3_record_31 : decode cX3_record 31 = .ok (.aload_n 0, 1) := by decide +kernel
theorem dX3_record_32 : decode cX3_record 32 = .ok (.getfield 186, 3) := by decide +kernel
theorem dX3_record_35 : decode cX3_record 35 = .ok (.invokestatic 242, 3) := by decide +kernel
theorem dX3_record_38 : decode cX3_record 38 = .ok (.invokestatic 195, 3) := by decide +kernel
theorem dX3_record_41 : decode cX3_record 41 = .ok (.aload_n 0, 1) := by decide +kernel
theorem dX3_record_42 : decode cX3_record 42 = .ok (.dup, 1) := by decide +kernel
theorem dX3_record_43 : decode cX3_record 43 = .ok (.getfield 186, 3) := by decide +kernel
theorem dX3_record_46 : decode cX3_record 46 = .ok (.iconst 1, 1) := by decide +kernel
theorem dX3_record_47 : decode cX3_record 47 = .ok (.iadd, 1) := by decide +kernel
theorem dX3_record_48 : decode cX3_record 48 = .ok (.putfield 186, 3) := by decide +kernel
theorem dX3_record_51 : decode cX3_record 51 = .ok (.return_, 1) := by decide +kernel
theorem dX3_moveOldestToTheEnd_0 : decode cX3_moveOldestToTheEnd 0 = .ok (.iconst 1, 1) := by decide +kernel
theorem dX3_moveOldestToTheEnd_1 : decode cX3_moveOldestToTheEnd 1 = .ok (.istore_n 1, 1) := by decide +kernel
theorem dX3_moveOldestToTheEnd_2 : decode cX3_moveOldestToTheEnd 2 = .ok (.iload_n 1, 1) := by decide +kernel
theorem dX3_moveOldestToTheEnd_3 : decode cX3_moveOldestToTheEnd 3 = .ok (.aload_n 0, 1) := by decide +kernel
theorem dX3_moveOldestToTheEnd_4 : decode cX3_moveOldestToTheEnd 4 = .ok (.getfield 19, 3) := by decide +kernel
theorem dX3_moveOldestToTheEnd_7 : decode cX3_moveOldestToTheEnd 7 = .ok (.arraylength, 1) := by decide +kernel
theorem dX3_moveOldestToTheEnd_8 : decode cX3_moveOldestToTheEnd 8 = .ok (.if_icmp .ge 39, 3) := by decide +kernel
theorem dX3_moveOldestToTheEnd_11 : decode cX3_moveOldestToTheEnd 11 = .ok (.aload_n 0, 1) := by decide +kernel
theorem dX3_moveOldestToTheEnd_12 : decode cX3_moveOldestToTheEnd 12 = .ok (.getfield 19, 3) := by decide +kernel
theorem dX3_moveOldestToTheEnd_15 : decode cX3_moveOldestToTheEnd 15 = .ok (.iload_n 1, 1) := by decide +kernel
theorem dX3_moveOldestToTheEnd_16 : decode cX3_moveOldestToTheEnd 16 = .ok (.iconst 1, 1) := by decide +kernel
theorem dX3_moveOldestToTheEnd_17 : decode cX3_moveOldestToTheEnd 17 = .ok (.isub, 1) := by decide +kernel
theorem dX3_moveOldestToTheEnd_18 : decode cX3_moveOldestToTheEnd 18 = .ok (.aaload, 1) := by decide +kernel
theorem dX3_moveOldestToTheEnd_19 : decode cX3_moveOldestToTheEnd 19 = .ok (.astore_n 2, 1) := by decide +kernel
theorem dX3_moveOldestToTheEnd_20 : decode cX3_moveOldestToTheEnd 20 = .ok (.aload_n 0, 1) := by decide +kernel
theorem dX3_moveOldestToTheEnd_21 : decode cX3_moveOldestToTheEnd 21 = .ok (.getfield 19, 3) := by decide +kernel
theorem dX3_moveOldestToTheEnd_24 : decode cX3_moveOldestToTheEnd 24 = .ok (.iload_n 1, 1) := by decide +kernel
theorem dX3_moveOldestToTheEnd_25 : decode cX3_moveOldestToTheEnd 25 = .ok (.iconst 1, 1) := by decide +kernel
theorem dX3_moveOldestToTheEnd_26 : decode cX3_moveOldestToTheEnd 26 = .ok (.isub, 1) := by decide +kernel
theorem dX3_moveOldestToTheEnd_27 : decode cX3_moveOldestToTheEnd 27 = .ok (.aload_n 0, 1) := by decide +kernel
theorem dX3_moveOldestToTheEnd_28 : decode cX3_moveOldestToTheEnd 28 = .ok (.getfield 19, 3) := by decide +kernel
theorem dX3_moveOldestToTheEnd_31 : decode cX3_moveOldestToTheEnd 31 = .ok (.iload_n 1, 1) := by decide +kernel
theorem dX3_moveOldestToTheEnd_32 : decode cX3_moveOldestToTheEnd 32 = .ok (.aaload, 1) := by decide +kernel
theorem dX3_moveOldestToTheEnd_33 : decode cX3_moveOldestToTheEnd 33 = .ok (.aastore, 1) := by decide +kernel
theorem dX3_moveOldestToTheEnd_34 : decode cX3_moveOldestToTheEnd 34 = .ok (.aload_n 0, 1) := by decide +kernel
theorem dX3_moveOldestToTheEnd_35 : decode cX3_moveOldestToTheEnd 35 = .ok (.getfield 19, 3) := by decide +kernel
theorem dX3_moveOldestToTheEnd_38 : decode cX3_moveOldestToTheEnd 38 = .ok (.iload_n 1, 1) := by decide +kernel
theorem dX3_moveOldestToTheEnd_39 : decode cX3_moveOldestToTheEnd 39 = .ok (.aload_n 2, 1) := by decide +kernel
theorem dX3_moveOldestToTheEnd_40 : decode cX3_moveOldestToTheEnd 40 = .ok (.aastore, 1) := by decide +kernel
theorem dX3_moveOldestToTheEnd_41 : decode cX3_moveOldestToTheEnd 41 = .ok (.iinc 1 1, 3) := by decide +kernel
theorem dX3_moveOldestToTheEnd_44 : decode cX3_moveOldestToTheEnd 44 = .ok (.goto (-42), 3) := by decide +kernel
theorem dX3_moveOldestToTheEnd_47 : decode cX3_moveOldestToTheEnd 47 = .ok (.return_, 1) := by decide +kernel
theorem dX3_stateAt_0 : decode cX3_stateAt 0 = .ok (.iload_n 1, 1) := by decide +kernel
theorem dX3_stateAt_1 : decode cX3_stateAt 1 = .ok (.ifCond .lt 15, 3) := by decide +kernel
theorem dX3_stateAt_4 : decode cX3_stateAt 4 = .ok (.iload_n 1, 1) := by decide +kernel
theorem dX3_stateAt_5 : decode cX3_stateAt 5 = .ok (.aload_n 0, 1) := by decide +kernel
theorem dX3_stateAt_6 : decode cX3_stateAt 6 = .ok (.arraylength, 1) := by decide +kernel
theorem dX3_stateAt_7 : decode cX3_stateAt 7 = .ok (.if_icmp .ge 9, 3) := by decide +kernel
theorem dX3_stateAt_10 : decode cX3_stateAt 10 = .ok (.aload_n 0, 1) := by decide +kernel
theorem dX3_stateAt_11 : decode cX3_stateAt 11 = .ok (.iload_n 1, 1) := by decide +kernel
theorem dX3_stateAt_12 : decode cX3_stateAt 12 = .ok (.aaload, 1) := by decide +kernel
theorem dX3_stateAt_13 : decode cX3_stateAt 13 = .ok (.goto 4, 3) := by decide +kernel
theorem dX3_stateAt_16 : decode cX3_stateAt 16 = .ok (.aconst_null, 1) := by decide +kernel
theorem dX3_stateAt_17 : decode cX3_stateAt 17 = .ok (.areturn, 1) := by decide +kernel
theorem dX3_copy_0 : decode cX3_copy 0 = .ok (.aload_n 0, 1) := by decide +kernel
theorem dX3_copy_1 : decode cX3_copy 1 = .ok (.ifnull 7, 3) := by decide +kernel
theorem dX3_copy_4 : decode cX3_copy 4 = .ok (.aload_n 1, 1) := by decide +kernel
theorem dX3_copy_5 : decode cX3_copy 5 = .ok (.ifnonnull 4, 3) := by decide +kernel
theorem dX3_copy_8 : decode cX3_copy 8 = .ok (.return_, 1) := by decide +kernel
theorem dX3_copy_9 : decode cX3_copy 9 = .ok (.aload_n 1, 1) := by decide +kernel
theorem dX3_copy_10 : decode cX3_copy 10 = .ok (.aload_n 0, 1) := by decide +kernel
theorem dX3_copy_11 : decode cX3_copy 11 = .ok (.getfield 40, 3) := by decide +kernel
theorem dX3_copy_14 : decode cX3_copy 14 = .ok (.putfield 40, 3) := by decide +kernel
theorem dX3_copy_17 : decode cX3_copy 17 = .ok (.aload_n 1, 1) := by decide +kernel
theorem dX3_copy_18 : decode cX3_copy 18 = .ok (.aload_n 0, 1) := by decide +kernel
theorem dX3_copy_19 : decode cX3_copy 19 = .ok (.getfield 47, 3) := by decide +kernel
theorem dX3_copy_22 : decode cX3_copy 22 = .ok (.putfield 47, 3) := by decide +kernel
theorem dX3_copy_25 : decode cX3_copy 25 = .ok (.aload_n 1, 1) := by decide +kernel
theorem dX3_copy_26 : decode cX3_copy 26 = .ok (.aload_n 0, 1) := by decide +kernel
theorem dX3_copy_27 : decode cX3_copy 27 = .ok (.getfield 50, 3) := by decide +kernel
theorem dX3_copy_30 : decode cX3_copy 30 = .ok (.putfield 50, 3) := by decide +kernel
theorem dX3_copy_33 : decode cX3_copy 33 = .ok (.aload_n 1, 1) := by decide +kernel
theorem dX3_copy_34 : decode cX3_copy 34 = .ok (.aload_n 0, 1) := by decide +kernel
theorem dX3_copy_35 : decode cX3_copy 35 = .ok (.getfield 171, 3) := by decide +kernel
theorem dX3_copy_38 : decode cX3_copy 38 = .ok (.putfield 171, 3) := by decide +kernel
theorem dX3_copy_41 : decode cX3_copy 41 = .ok (.aload_n 1, 1) := by decide +kernel
theorem dX3_copy_42 : decode cX3_copy 42 = .ok (.aload_n 0, 1) := by decide +kernel
theorem dX3_copy_43 : decode cX3_copy 43 = .ok (.getfield 174, 3) := by decide +kernel
theorem dX3_copy_46 : decode cX3_copy 46 = .ok (.putfield 174, 3) := by decide +kernel
theorem dX3_copy_49 : decode cX3_copy 49 = .ok (.aload_n 1, 1) := by decide +kernel
theorem dX3_copy_50 : decode cX3_copy 50 = .ok (.aload_n 0, 1) := by decide +kernel
theorem dX3_copy_51 : decode cX3_copy 51 = .ok (.getfield 177, 3) := by decide +kernel
theorem dX3_copy_54 : decode cX3_copy 54 = .ok (.putfield 177, 3) := by decide +kernel
theorem dX3_copy_57 : decode cX3_copy 57 = .ok (.aload_n 1, 1) := by decide +kernel
theorem dX3_copy_58 : decode cX3_copy 58 = .ok (.aload_n 0, 1) := by decide +kernel
theorem dX3_copy_59 : decode cX3_copy 59 = .ok (.getfield 165, 3) := by decide +kernel
theorem dX3_copy_62 : decode cX3_copy 62 = .ok (.putfield 165, 3) := by decide +kernel
theorem dX3_copy_65 : decode cX3_copy 65 = .ok (.aload_n 0, 1) := by decide +kernel
theorem dX3_copy_66 : decode cX3_copy 66 = .ok (.getfield 252, 3) := by decide +kernel
theorem dX3_copy_69 : decode cX3_copy 69 = .ok (.aload_n 1, 1) := by decide +kernel
theorem dX3_copy_70 : decode cX3_copy 70 = .ok (.getfield 252, 3) := by decide +kernel
theorem dX3_copy_73 : decode cX3_copy 73 = .ok (.invokestatic 256, 3) := by decide +kernel
theorem dX3_copy_76 : decode cX3_copy 76 = .ok (.aload_n 0, 1) := by decide +kernel
theorem dX3_copy_77 : decode cX3_copy 77 = .ok (.getfield 260, 3) := by decide +kernel
theorem dX3_copy_80 : decode cX3_copy 80 = .ok (.aload_n 1, 1) := by decide +kernel
theorem dX3_copy_81 : decode cX3_copy 81 = .ok (.getfield 260, 3) := by decide +kernel
theorem dX3_copy_84 : decode cX3_copy 84 = .ok (.invokestatic 256, 3) := by decide +kernel
theorem dX3_copy_87 : decode cX3_copy 87 = .ok (.aload_n 0, 1) := by decide +kernel
theorem dX3_copy_88 : decode cX3_copy 88 = .ok (.getfield 263, 3) := by decide +kernel
theorem dX3_copy_91 : decode cX3_copy 91 = .ok (.aload_n 1, 1) := by decide +kernel
theorem dX3_copy_92 : decode cX3_copy 92 = .ok (.getfield 263, 3) := by decide +kernel
theorem dX3_copy_95 : decode cX3_copy 95 = .ok (.invokestatic 256, 3) := by decide +kernel
theorem dX3_copy_98 : decode cX3_copy 98 = .ok (.aload_n 0, 1) := by decide +kernel
theorem dX3_copy_99 : decode cX3_copy 99 = .ok (.getfield 266, 3) := by decide +kernel
theorem dX3_copy_102 : decode cX3_copy 102 = .ok (.aload_n 1, 1) := by decide +kernel
theorem dX3_copy_103 : decode cX3_copy 103 = .ok (.getfield 266, 3) := by decide +kernel
theorem dX3_copy_106 : decode cX3_copy 106 = .ok (.invokestatic 256, 3) := by decide +kernel
theorem dX3_copy_109 : decode cX3_copy 109 = .ok (.return_, 1) := by decide +kernel
theorem dX3_copyNumbers_0 : decode cX3_copyNumbers 0 = .ok (.aload_n 0, 1) := by decide +kernel
theorem dX3_copyNumbers_1 : decode cX3_copyNumbers 1 = .ok (.iconst 0, 1) := by decide +kernel
theorem dX3_copyNumbers_2 : decode cX3_copyNumbers 2 = .ok (.aload_n 1, 1) := by decide +kernel
theorem dX3_copyNumbers_3 : decode cX3_copyNumbers 3 = .ok (.iconst 0, 1) := by decide +kernel
theorem dX3_copyNumbers_4 : decode cX3_copyNumbers 4 = .ok (.aload_n 0, 1) := by decide +kernel
theorem dX3_copyNumbers_5 : decode cX3_copyNumbers 5 = .ok (.arraylength, 1) := by decide +kernel
theorem dX3_copyNumbers_6 : decode cX3_copyNumbers 6 = .ok (.aload_n 1, 1) := by decide +kernel
theorem dX3_copyNumbers_7 : decode cX3_copyNumbers 7 = .ok (.arraylength, 1) := by decide +kernel
theorem dX3_copyNumbers_8 : decode cX3_copyNumbers 8 = .ok (.invokestatic 269, 3) := by decide +kernel
theorem dX3_copyNumbers_11 : decode cX3_copyNumbers 11 = .ok (.invokestatic 272, 3) := by decide +kernel
theorem dX3_copyNumbers_14 : decode cX3_copyNumbers 14 = .ok (.return_, 1) := by decide +kernel
theorem dX3_spanError_0 : decode cX3_spanError 0 = .ok (.iload_n 0, 1) := by decide +kernel
theorem dX3_spanError_1 : decode cX3_spanError 1 = .ok (.invokestatic 102, 3) := by decide +kernel
theorem dX3_spanError_4 : decode cX3_spanError 4 = .ok (.ifCond .eq 10, 3) := by decide +kernel
theorem dX3_spanError_7 : decode cX3_spanError 7 = .ok (.iload_n 1, 1) := by decide +kernel
theorem dX3_spanError_8 : decode cX3_spanError 8 = .ok (.invokestatic 102, 3) := by decide +kernel
theorem dX3_spanError_11 : decode cX3_spanError 11 = .ok (.ifCond .ne 5, 3) := by decide +kernel
theorem dX3_spanError_14 : decode cX3_spanError 14 = .ok (.iconst (-1), 1) := by decide +kernel
theorem dX3_spanError_15 : decode cX3_spanError 15 = .ok (.ireturn, 1) := by decide +kernel
theorem dX3_spanError_16 : decode cX3_spanError 16 = .ok (.iload_n 1, 1) := by decide +kernel
theorem dX3_spanError_17 : decode cX3_spanError 17 = .ok (.iload_n 0, 1) := by decide +kernel
theorem dX3_spanError_18 : decode cX3_spanError 18 = .ok (.if_icmp .ge 8, 3) := by decide +kernel
theorem dX3_spanError_21 : decode cX3_spanError 21 = .ok (.bipush (-2), 2) := by decide +kernel
theorem dX3_spanError_23 : decode cX3_spanError 23 = .ok (.goto 4, 3) := by decide +kernel
theorem dX3_spanError_26 : decode cX3_spanError 26 = .ok (.iconst 0, 1) := by decide +kernel
theorem dX3_spanError_27 : decode cX3_spanError 27 = .ok (.ireturn, 1) := by decide +kernel
theorem dX3_subjectSpanError_0 : decode cX3_subjectSpanError 0 = .ok (.iload_n 0, 1) := by decide +kernel
theorem dX3_subjectSpanError_1 : decode cX3_subjectSpanError 1 = .ok (.invokestatic 98, 3) := by decide +kernel
theorem dX3_subjectSpanError_4 : decode cX3_subjectSpanError 4 = .ok (.ifCond .eq 11, 3) := by decide +kernel
theorem dX3_subjectSpanError_7 : decode cX3_subjectSpanError 7 = .ok (.iload_n 1, 1) := by decide +kernel
theorem dX3_subjectSpanError_8 : decode cX3_subjectSpanError 8 = .ok (.iload_n 2, 1) := by decide +kernel
theorem dX3_subjectSpanError_9 : decode cX3_subjectSpanError 9 = .ok (.invokestatic 116, 3) := by decide +kernel
theorem dX3_subjectSpanError_12 : decode cX3_subjectSpanError 12 = .ok (.goto 4, 3) := by decide +kernel
theorem dX3_subjectSpanError_15 : decode cX3_subjectSpanError 15 = .ok (.iconst (-1), 1) := by decide +kernel
theorem dX3_subjectSpanError_16 : decode cX3_subjectSpanError 16 = .ok (.ireturn, 1) := by decide +kernel
theorem dX3_changeError_0 : decode cX3_changeError 0 = .ok (.iload_n 1, 1) := by decide +kernel
theorem dX3_changeError_1 : decode cX3_changeError 1 = .ok (.iload_n 2, 1) := by decide +kernel
theorem dX3_changeError_2 : decode cX3_changeError 2 = .ok (.iload_n 3, 1) := by decide +kernel
theorem dX3_changeError_3 : decode cX3_changeError 3 = .ok (.invokestatic 73, 3) := by decide +kernel
theorem dX3_changeError_6 : decode cX3_changeError 6 = .ok (.istore 4, 2) := by decide +kernel
theorem dX3_changeError_8 : decode cX3_changeError 8 = .ok (.iload 4, 2) := by decide +kernel
theorem dX3_changeError_10 : decode cX3_changeError 10 = .ok (.ifCond .eq 6, 3) := by decide +kernel
theorem dX3_changeError_13 : decode cX3_changeError 13 = .ok (.iload 4, 2) := by decide +kernel
theorem dX3_changeError_15 : decode cX3_changeError 15 = .ok (.ireturn, 1) := by decide +kernel
theorem dX3_changeError_16 : decode cX3_changeError 16 = .ok (.iload_n 3, 1) := by decide +kernel
theorem dX3_changeError_17 : decode cX3_changeError 17 = .ok (.aload_n 0, 1) := by decide +kernel
theorem dX3_changeError_18 : decode cX3_changeError 18 = .ok (.getfield 12, 3) := by decide +kernel
theorem dX3_changeError_21 : decode cX3_changeError 21 = .ok (.getfield 40, 3) := by decide +kernel
theorem dX3_changeError_24 : decode cX3_changeError 24 = .ok (.if_icmp .le 8, 3) := by decide +kernel
theorem dX3_changeError_27 : decode cX3_changeError 27 = .ok (.bipush (-5), 2) := by decide +kernel
theorem dX3_changeError_29 : decode cX3_changeError 29 = .ok (.goto 4, 3) := by decide +kernel
theorem dX3_changeError_32 : decode cX3_changeError 32 = .ok (.iconst 0, 1) := by decide +kernel
theorem dX3_changeError_33 : decode cX3_changeError 33 = .ok (.ireturn, 1) := by decide +kernel
theorem dX3_passError_0 : decode cX3_passError 0 = .ok (.iload_n 1, 1) := by decide +kernel
theorem dX3_passError_1 : decode cX3_passError 1 = .ok (.iconst 1, 1) := by decide +kernel
theorem dX3_passError_2 : decode cX3_passError 2 = .ok (.if_icmp .lt 10, 3) := by decide +kernel
theorem dX3_passError_5 : decode cX3_passError 5 = .ok (.iload_n 1, 1) := by decide +kernel
theorem dX3_passError_6 : decode cX3_passError 6 = .ok (.sipush 400, 3) := by decide +kernel
theorem dX3_passError_9 : decode cX3_passError 9 = .ok (.if_icmp .le 6, 3) := by decide +kernel
theorem dX3_passError_12 : decode cX3_passError 12 = .ok (.bipush (-2), 2) := by decide +kernel
theorem dX3_passError_14 : decode cX3_passError 14 = .ok (.ireturn, 1) := by decide +kernel
theorem dX3_passError_15 : decode cX3_passError 15 = .ok (.aload_n 0, 1) := by decide +kernel
theorem dX3_passError_16 : decode cX3_passError 16 = .ok (.getfield 12, 3) := by decide +kernel
theorem dX3_passError_19 : decode cX3_passError 19 = .ok (.getfield 40, 3) := by decide +kernel
theorem dX3_passError_22 : decode cX3_passError 22 = .ok (.iload_n 1, 1) := by decide +kernel
theorem dX3_passError_23 : decode cX3_passError 23 = .ok (.iadd, 1) := by decide +kernel
theorem dX3_passError_24 : decode cX3_passError 24 = .ok (.sipush 3649, 3) := by decide +kernel
theorem dX3_passError_27 : decode cX3_passError 27 = .ok (.if_icmp .le 8, 3) := by decide +kernel
theorem dX3_passError_30 : decode cX3_passError 30 = .ok (.bipush (-4), 2) := by decide +kernel
theorem dX3_passError_32 : decode cX3_passError 32 = .ok (.goto 4, 3) := by decide +kernel
theorem dX3_passError_35 : decode cX3_passError 35 = .ok (.iconst 0, 1) := by decide +kernel
theorem dX3_passError_36 : decode cX3_passError 36 = .ok (.ireturn, 1) := by decide +kernel
theorem dX3_isSubject_0 : decode cX3_isSubject 0 = .ok (.iload_n 0, 1) := by decide +kernel
theorem dX3_isSubject_1 : decode cX3_isSubject 1 = .ok (.ifCond .lt 13, 3) := by decide +kernel
theorem dX3_isSubject_4 : decode cX3_isSubject 4 = .ok (.iload_n 0, 1) := by decide +kernel
theorem dX3_isSubject_5 : decode cX3_isSubject 5 = .ok (.bipush 16, 2) := by decide +kernel
theorem dX3_isSubject_7 : decode cX3_isSubject 7 = .ok (.if_icmp .ge 7, 3) := by decide +kernel
theorem dX3_isSubject_10 : decode cX3_isSubject 10 = .ok (.iconst 1, 1) := by decide +kernel
theorem dX3_isSubject_11 : decode cX3_isSubject 11 = .ok (.goto 4, 3) := by decide +kernel
theorem dX3_isSubject_14 : decode cX3_isSubject 14 = .ok (.iconst 0, 1) := by decide +kernel
theorem dX3_isSubject_15 : decode cX3_isSubject 15 = .ok (.ireturn, 1) := by decide +kernel
theorem dX3_isDay_0 : decode cX3_isDay 0 = .ok (.iload_n 0, 1) := by decide +kernel
theorem dX3_isDay_1 : decode cX3_isDay 1 = .ok (.ifCond .lt 14, 3) := by decide +kernel
theorem dX3_isDay_4 : decode cX3_isDay 4 = .ok (.iload_n 0, 1) := by decide +kernel
theorem dX3_isDay_5 : decode cX3_isDay 5 = .ok (.sipush 3650, 3) := by decide +kernel
theorem dX3_isDay_8 : decode cX3_isDay 8 = .ok (.if_icmp .ge 7, 3) := by decide +kernel
theorem dX3_isDay_11 : decode cX3_isDay 11 = .ok (.iconst 1, 1) := by decide +kernel
theorem dX3_isDay_12 : decode cX3_isDay 12 = .ok (.goto 4, 3) := by decide +kernel
theorem dX3_isDay_15 : decode cX3_isDay 15 = .ok (.iconst 0, 1) := by decide +kernel
theorem dX3_isDay_16 : decode cX3_isDay 16 = .ok (.ireturn, 1) := by decide +kernel
theorem dX3_isMonth_0 : decode cX3_isMonth 0 = .ok (.iload_n 0, 1) := by decide +kernel
theorem dX3_isMonth_1 : decode cX3_isMonth 1 = .ok (.ifCond .lt 13, 3) := by decide +kernel
theorem dX3_isMonth_4 : decode cX3_isMonth 4 = .ok (.iload_n 0, 1) := by decide +kernel
theorem dX3_isMonth_5 : decode cX3_isMonth 5 = .ok (.bipush 120, 2) := by decide +kernel
theorem dX3_isMonth_7 : decode cX3_isMonth 7 = .ok (.if_icmp .ge 7, 3) := by decide +kernel
theorem dX3_isMonth_10 : decode cX3_isMonth 10 = .ok (.iconst 1, 1) := by decide +kernel
theorem dX3_isMonth_11 : decode cX3_isMonth 11 = .ok (.goto 4, 3) := by decide +kernel
theorem dX3_isMonth_14 : decode cX3_isMonth 14 = .ok (.iconst 0, 1) := by decide +kernel
theorem dX3_isMonth_15 : decode cX3_isMonth 15 = .ok (.ireturn, 1) := by decide +kernel
theorem dX3_monthOf_0 : decode cX3_monthOf 0 = .ok (.iload_n 0, 1) := by decide +kernel
theorem dX3_monthOf_1 : decode cX3_monthOf 1 = .ok (.sipush 365, 3) := by decide +kernel
theorem dX3_monthOf_4 : decode cX3_monthOf 4 = .ok (.idiv, 1) := by decide +kernel
theorem dX3_monthOf_5 : decode cX3_monthOf 5 = .ok (.istore_n 1, 1) := by decide +kernel
theorem dX3_monthOf_6 : decode cX3_monthOf 6 = .ok (.iload_n 0, 1) := by decide +kernel
theorem dX3_monthOf_7 : decode cX3_monthOf 7 = .ok (.sipush 365, 3) := by decide +kernel
theorem dX3_monthOf_10 : decode cX3_monthOf 10 = .ok (.irem, 1) := by decide +kernel
theorem dX3_monthOf_11 : decode cX3_monthOf 11 = .ok (.istore_n 2, 1) := by decide +kernel
theorem dX3_monthOf_12 : decode cX3_monthOf 12 = .ok (.iconst 0, 1) := by decide +kernel
theorem dX3_monthOf_13 : decode cX3_monthOf 13 = .ok (.istore_n 3, 1) := by decide +kernel
theorem dX3_monthOf_14 : decode cX3_monthOf 14 = .ok (.iload_n 3, 1) := by decide +kernel
theorem dX3_monthOf_15 : decode cX3_monthOf 15 = .ok (.bipush 11, 2) := by decide +kernel
theorem dX3_monthOf_17 : decode cX3_monthOf 17 = .ok (.if_icmp .ge 19, 3) := by decide +kernel
theorem dX3_monthOf_20 : decode cX3_monthOf 20 = .ok (.iload_n 3, 1) := by decide +kernel
theorem dX3_monthOf_21 : decode cX3_monthOf 21 = .ok (.iconst 1, 1) := by decide +kernel
theorem dX3_monthOf_22 : decode cX3_monthOf 22 = .ok (.iadd, 1) := by decide +kernel
theorem dX3_monthOf_23 : decode cX3_monthOf 23 = .ok (.invokestatic 278, 3) := by decide +kernel
theorem dX3_monthOf_26 : decode cX3_monthOf 26 = .ok (.iload_n 2, 1) := by decide +kernel
theorem dX3_monthOf_27 : decode cX3_monthOf 27 = .ok (.if_icmp .gt 9, 3) := by decide +kernel
theorem dX3_monthOf_30 : decode cX3_monthOf 30 = .ok (.iinc 3 1, 3) := by decide +kernel
theorem dX3_monthOf_33 : decode cX3_monthOf 33 = .ok (.goto (-19), 3) := by decide +kernel
theorem dX3_monthOf_36 : decode cX3_monthOf 36 = .ok (.iload_n 1, 1) := by decide +kernel
theorem dX3_monthOf_37 : decode cX3_monthOf 37 = .ok (.bipush 12, 2) := by decide +kernel
theorem dX3_monthOf_39 : decode cX3_monthOf 39 = .ok (.imul, 1) := by decide +kernel
theorem dX3_monthOf_40 : decode cX3_monthOf 40 = .ok (.iload_n 3, 1) := by decide +kernel
theorem dX3_monthOf_41 : decode cX3_monthOf 41 = .ok (.iadd, 1) := by decide +kernel
theorem dX3_monthOf_42 : decode cX3_monthOf 42 = .ok (.ireturn, 1) := by decide +kernel
theorem dX3_firstDayOf_0 : decode cX3_firstDayOf 0 = .ok (.iload_n 0, 1) := by decide +kernel
theorem dX3_firstDayOf_1 : decode cX3_firstDayOf 1 = .ok (.bipush 12, 2) := by decide +kernel
theorem dX3_firstDayOf_3 : decode cX3_firstDayOf 3 = .ok (.idiv, 1) := by decide +kernel
theorem dX3_firstDayOf_4 : decode cX3_firstDayOf 4 = .ok (.sipush 365, 3) := by decide +kernel
theorem dX3_firstDayOf_7 : decode cX3_firstDayOf 7 = .ok (.imul, 1) := by decide +kernel
theorem dX3_firstDayOf_8 : decode cX3_firstDayOf 8 = .ok (.iload_n 0, 1) := by decide +kernel
theorem dX3_firstDayOf_9 : decode cX3_firstDayOf 9 = .ok (.bipush 12, 2) := by decide +kernel
theorem dX3_firstDayOf_11 : decode cX3_firstDayOf 11 = .ok (.irem, 1) := by decide +kernel
theorem dX3_firstDayOf_12 : decode cX3_firstDayOf 12 = .ok (.invokestatic 278, 3) := by decide +kernel
theorem dX3_firstDayOf_15 : decode cX3_firstDayOf 15 = .ok (.iadd, 1) := by decide +kernel
theorem dX3_firstDayOf_16 : decode cX3_firstDayOf 16 = .ok (.ireturn, 1) := by decide +kernel
theorem dX3_daysOf_0 : decode cX3_daysOf 0 = .ok (.iload_n 0, 1) := by decide +kernel
theorem dX3_daysOf_1 : decode cX3_daysOf 1 = .ok (.bipush 12, 2) := by decide +kernel
theorem dX3_daysOf_3 : decode cX3_daysOf 3 = .ok (.irem, 1) := by decide +kernel
theorem dX3_daysOf_4 : decode cX3_daysOf 4 = .ok (.istore_n 1, 1) := by decide +kernel
theorem dX3_daysOf_5 : decode cX3_daysOf 5 = .ok (.iload_n 1, 1) := by decide +kernel
theorem dX3_daysOf_6 : decode cX3_daysOf 6 = .ok (.iconst 1, 1) := by decide +kernel
theorem dX3_daysOf_7 : decode cX3_daysOf 7 = .ok (.iadd, 1) := by decide +kernel
theorem dX3_daysOf_8 : decode cX3_daysOf 8 = .ok (.invokestatic 278, 3) := by decide +kernel
theorem dX3_daysOf_11 : decode cX3_daysOf 11 = .ok (.iload_n 1, 1) := by decide +kernel
theorem dX3_daysOf_12 : decode cX3_daysOf 12 = .ok (.invokestatic 278, 3) := by decide +kernel
theorem dX3_daysOf_15 : decode cX3_daysOf 15 = .ok (.isub, 1) := by decide +kernel
theorem dX3_daysOf_16 : decode cX3_daysOf 16 = .ok (.ireturn, 1) := by decide +kernel
theorem dX3_startInYear_0 : decode cX3_startInYear 0 = .ok (.iload_n 0, 1) := by decide +kernel
theorem dX3_startInYear_1 : decode cX3_startInYear 1 = .ok (.ifCond .lt 19, 3) := by decide +kernel
theorem dX3_startInYear_4 : decode cX3_startInYear 4 = .ok (.iload_n 0, 1) := by decide +kernel
theorem dX3_startInYear_5 : decode cX3_startInYear 5 = .ok (.getstatic 281, 3) := by decide +kernel
theorem dX3_startInYear_8 : decode cX3_startInYear 8 = .ok (.arraylength, 1) := by decide +kernel
theorem dX3_startInYear_9 : decode cX3_startInYear 9 = .ok (.if_icmp .ge 11, 3) := by decide +kernel
theorem dX3_startInYear_12 : decode cX3_startInYear 12 = .ok (.getstatic 281, 3) := by decide +kernel
theorem dX3_startInYear_15 : decode cX3_startInYear 15 = .ok (.iload_n 0, 1) := by decide +kernel
theorem dX3_startInYear_16 : decode cX3_startInYear 16 = .ok (.iaload, 1) := by decide +kernel
theorem dX3_startInYear_17 : decode cX3_startInYear 17 = .ok (.goto 4, 3) := by decide +kernel
theorem dX3_startInYear_20 : decode cX3_startInYear 20 = .ok (.iconst 0, 1) := by decide +kernel
theorem dX3_startInYear_21 : decode cX3_startInYear 21 = .ok (.ireturn, 1) := by decide +kernel
theorem dX3_daysMeant_0 : decode cX3_daysMeant 0 = .ok (.iload_n 0, 1) := by decide +kernel
theorem dX3_daysMeant_1 : decode cX3_daysMeant 1 = .ok (.invokestatic 105, 3) := by decide +kernel
theorem dX3_daysMeant_4 : decode cX3_daysMeant 4 = .ok (.istore_n 3, 1) := by decide +kernel
theorem dX3_daysMeant_5 : decode cX3_daysMeant 5 = .ok (.iload_n 1, 1) := by decide +kernel
theorem dX3_daysMeant_6 : decode cX3_daysMeant 6 = .ok (.iload_n 3, 1) := by decide +kernel
theorem dX3_daysMeant_7 : decode cX3_daysMeant 7 = .ok (.isub, 1) := by decide +kernel
theorem dX3_daysMeant_8 : decode cX3_daysMeant 8 = .ok (.iconst 0, 1) := by decide +kernel
theorem dX3_daysMeant_9 : decode cX3_daysMeant 9 = .ok (.invokestatic 132, 3) := by decide +kernel
theorem dX3_daysMeant_12 : decode cX3_daysMeant 12 = .ok (.istore 4, 2) := by decide +kernel
theorem dX3_daysMeant_14 : decode cX3_daysMeant 14 = .ok (.iload_n 2, 1) := by decide +kernel
theorem dX3_daysMeant_15 : decode cX3_daysMeant 15 = .ok (.iload_n 3, 1) := by decide +kernel
theorem dX3_daysMeant_16 : decode cX3_daysMeant 16 = .ok (.isub, 1) := by decide +kernel
theorem dX3_daysMeant_17 : decode cX3_daysMeant 17 = .ok (.iload_n 0, 1) := by decide +kernel
theorem dX3_daysMeant_18 : decode cX3_daysMeant 18 = .ok (.invokestatic 129, 3) := by decide +kernel
theorem dX3_daysMeant_21 : decode cX3_daysMeant 21 = .ok (.iconst 1, 1) := by decide +kernel
theorem dX3_daysMeant_22 : decode cX3_daysMeant 22 = .ok (.isub, 1) := by decide +kernel
theorem dX3_daysMeant_23 : decode cX3_daysMeant 23 = .ok (.invokestatic 269, 3) := by decide +kernel
theorem dX3_daysMeant_26 : decode cX3_daysMeant 26 = .ok (.istore 5, 2) := by decide +kernel
theorem dX3_daysMeant_28 : decode cX3_daysMeant 28 = .ok (.iload 4, 2) := by decide +kernel
theorem dX3_daysMeant_30 : decode cX3_daysMeant 30 = .ok (.iload 5, 2) := by decide +kernel
theorem dX3_daysMeant_32 : decode cX3_daysMeant 32 = .ok (.if_icmp .le 7, 3) := by decide +kernel
theorem dX3_daysMeant_35 : decode cX3_daysMeant 35 = .ok (.iconst 0, 1) := by decide +kernel
theorem dX3_daysMeant_36 : decode cX3_daysMeant 36 = .ok (.goto 16, 3) := by decide +kernel
theorem dX3_daysMeant_39 : decode cX3_daysMeant 39 = .ok (.iload 5, 2) := by decide +kernel
theorem dX3_daysMeant_41 : decode cX3_daysMeant 41 = .ok (.iload 4, 2) := by decide +kernel
theorem dX3_daysMeant_43 : decode cX3_daysMeant 43 = .ok (.isub, 1) := by decide +kernel
theorem dX3_daysMeant_44 : decode cX3_daysMeant 44 = .ok (.iconst 1, 1) := by decide +kernel
theorem dX3_daysMeant_45 : decode cX3_daysMeant 45 = .ok (.iadd, 1) := by decide +kernel
theorem dX3_daysMeant_46 : decode cX3_daysMeant 46 = .ok (.invokestatic 284, 3) := by decide +kernel
theorem dX3_daysMeant_49 : decode cX3_daysMeant 49 = .ok (.iload 4, 2) := by decide +kernel
theorem dX3_daysMeant_51 : decode cX3_daysMeant 51 = .ok (.ishl, 1) := by decide +kernel
theorem dX3_daysMeant_52 : decode cX3_daysMeant 52 = .ok (.ireturn, 1) := by decide +kernel
theorem dX3_allDays_0 : decode cX3_allDays 0 = .ok (.iload_n 0, 1) := by decide +kernel
theorem dX3_allDays_1 : decode cX3_allDays 1 = .ok (.invokestatic 129, 3) := by decide +kernel
theorem dX3_allDays_4 : decode cX3_allDays 4 = .ok (.invokestatic 284, 3) := by decide +kernel
theorem dX3_allDays_7 : decode cX3_allDays 7 = .ok (.ireturn, 1) := by decide +kernel
theorem dX3_lowestBits_0 : decode cX3_lowestBits 0 = .ok (.iconst 1, 1) := by decide +kernel
theorem dX3_lowestBits_1 : decode cX3_lowestBits 1 = .ok (.iload_n 0, 1) := by decide +kernel
theorem dX3_lowestBits_2 : decode cX3_lowestBits 2 = .ok (.ishl, 1) := by decide +kernel
theorem dX3_lowestBits_3 : decode cX3_lowestBits 3 = .ok (.iconst 1, 1) := by decide +kernel
theorem dX3_lowestBits_4 : decode cX3_lowestBits 4 = .ok (.isub, 1) := by decide +kernel
theorem dX3_lowestBits_5 : decode cX3_lowestBits 5 = .ok (.ireturn, 1) := by decide +kernel
theorem dX3_isBitSet_0 : decode cX3_isBitSet 0 = .ok (.iload_n 0, 1) := by decide +kernel
theorem dX3_isBitSet_1 : decode cX3_isBitSet 1 = .ok (.iload_n 1, 1) := by decide +kernel
theorem dX3_isBitSet_2 : decode cX3_isBitSet 2 = .ok (.iushr, 1) := by decide +kernel
theorem dX3_isBitSet_3 : decode cX3_isBitSet 3 = .ok (.iconst 1, 1) := by decide +kernel
theorem dX3_isBitSet_4 : decode cX3_isBitSet 4 = .ok (.iand, 1) := by decide +kernel
theorem dX3_isBitSet_5 : decode cX3_isBitSet 5 = .ok (.iconst 1, 1) := by decide +kernel
theorem dX3_isBitSet_6 : decode cX3_isBitSet 6 = .ok (.if_icmp .ne 7, 3) := by decide +kernel
theorem dX3_isBitSet_9 : decode cX3_isBitSet 9 = .ok (.iconst 1, 1) := by decide +kernel
theorem dX3_isBitSet_10 : decode cX3_isBitSet 10 = .ok (.goto 4, 3) := by decide +kernel
theorem dX3_isBitSet_13 : decode cX3_isBitSet 13 = .ok (.iconst 0, 1) := by decide +kernel
theorem dX3_isBitSet_14 : decode cX3_isBitSet 14 = .ok (.ireturn, 1) := by decide +kernel
theorem dX3_charactersIn_0 : decode cX3_charactersIn 0 = .ok (.lload_n 0, 1) := by decide +kernel
theorem dX3_charactersIn_1 : decode cX3_charactersIn 1 = .ok (.lstore_n 2, 1) := by decide +kernel
theorem dX3_charactersIn_2 : decode cX3_charactersIn 2 = .ok (.iconst 0, 1) := by decide +kernel
theorem dX3_charactersIn_3 : decode cX3_charactersIn 3 = .ok (.istore 4, 2) := by decide +kernel
theorem dX3_charactersIn_5 : decode cX3_charactersIn 5 = .ok (.iload 4, 2) := by decide +kernel
theorem dX3_charactersIn_7 : decode cX3_charactersIn 7 = .ok (.bipush 8, 2) := by decide +kernel
theorem dX3_charactersIn_9 : decode cX3_charactersIn 9 = .ok (.if_icmp .ge 44, 3) := by decide +kernel
theorem dX3_charactersIn_12 : decode cX3_charactersIn 12 = .ok (.lload_n 2, 1) := by decide +kernel
theorem dX3_charactersIn_13 : decode cX3_charactersIn 13 = .ok (.lconst 0, 1) := by decide +kernel
theorem dX3_charactersIn_14 : decode cX3_charactersIn 14 = .ok (.lcmp, 1) := by decide +kernel
theorem dX3_charactersIn_15 : decode cX3_charactersIn 15 = .ok (.ifCond .eq 38, 3) := by decide +kernel
theorem dX3_charactersIn_18 : decode cX3_charactersIn 18 = .ok (.lload_n 2, 1) := by decide +kernel
theorem dX3_charactersIn_19 : decode cX3_charactersIn 19 = .ok (.ldc2_w 287, 3) := by decide +kernel
theorem dX3_charactersIn_22 : decode cX3_charactersIn 22 = .ok (.land, 1) := by decide +kernel
theorem dX3_charactersIn_23 : decode cX3_charactersIn 23 = .ok (.l2i, 1) := by decide +kernel
theorem dX3_charactersIn_24 : decode cX3_charactersIn 24 = .ok (.istore 5, 2) := by decide +kernel
theorem dX3_charactersIn_26 : decode cX3_charactersIn 26 = .ok (.iload 5, 2) := by decide +kernel
theorem dX3_charactersIn_28 : decode cX3_charactersIn 28 = .ok (.bipush 33, 2) := by decide +kernel
theorem dX3_charactersIn_30 : decode cX3_charactersIn 30 = .ok (.if_icmp .lt 10, 3) := by decide +kernel
theorem dX3_charactersIn_33 : decode cX3_charactersIn 33 = .ok (.iload 5, 2) := by decide +kernel
theorem dX3_charactersIn_35 : decode cX3_charactersIn 35 = .ok (.bipush 126, 2) := by decide +kernel
theorem dX3_charactersIn_37 : decode cX3_charactersIn 37 = .ok (.if_icmp .le 5, 3) := by decide +kernel
theorem dX3_charactersIn_40 : decode cX3_charactersIn 40 = .ok (.iconst 0, 1) := by decide +kernel
theorem dX3_charactersIn_41 : decode cX3_charactersIn 41 = .ok (.ireturn, 1) := by decide +kernel
theorem dX3_charactersIn_42 : decode cX3_charactersIn 42 = .ok (.lload_n 2, 1) := by decide +kernel
theorem dX3_charactersIn_43 : decode cX3_charactersIn 43 = .ok (.bipush 8, 2) := by decide +kernel
theorem dX3_charactersIn_45 : decode cX3_charactersIn 45 = .ok (.lushr, 1) := by decide +kernel
theorem dX3_charactersIn_46 : decode cX3_charactersIn 46 = .ok (.lstore_n 2, 1) := by decide +kernel
theorem dX3_charactersIn_47 : decode cX3_charactersIn 47 = .ok (.iinc 4 1, 3) := by decide +kernel
theorem dX3_charactersIn_50 : decode cX3_charactersIn 50 = .ok (.goto (-45), 3) := by decide +kernel
theorem dX3_charactersIn_53 : decode cX3_charactersIn 53 = .ok (.iload 4, 2) := by decide +kernel
theorem dX3_charactersIn_55 : decode cX3_charactersIn 55 = .ok (.ireturn, 1) := by decide +kernel
