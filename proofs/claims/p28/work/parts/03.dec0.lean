theorem dX0_init_0 : decode cX0_init 0 = .ok (.aload_n 0, 1) := by decide +kernel
theorem dX0_init_1 : decode cX0_init 1 = .ok (.invokespecial 3, 3) := by decide +kernel
theorem dX0_init_4 : decode cX0_init 4 = .ok (.aload_n 0, 1) := by decide +kernel
theorem dX0_init_5 : decode cX0_init 5 = .ok (.iconst 2, 1) := by decide +kernel
theorem dX0_init_6 : decode cX0_init 6 = .ok (.putfield 9, 3) := by decide +kernel
theorem dX0_init_9 : decode cX0_init 9 = .ok (.aload_n 0, 1) := by decide +kernel
theorem dX0_init_10 : decode cX0_init 10 = .ok (.iconst 2, 1) := by decide +kernel
theorem dX0_init_11 : decode cX0_init 11 = .ok (.putfield 15, 3) := by decide +kernel
theorem dX0_init_14 : decode cX0_init 14 = .ok (.aload_n 0, 1) := by decide +kernel
theorem dX0_init_15 : decode cX0_init 15 = .ok (.sipush 1920, 3) := by decide +kernel
theorem dX0_init_18 : decode cX0_init 18 = .ok (.newarray .int, 2) := by decide +kernel
theorem dX0_init_20 : decode cX0_init 20 = .ok (.putfield 18, 3) := by decide +kernel
theorem dX0_init_23 : decode cX0_init 23 = .ok (.aload_n 0, 1) := by decide +kernel
theorem dX0_init_24 : decode cX0_init 24 = .ok (.bipush 7, 2) := by decide +kernel
theorem dX0_init_26 : decode cX0_init 26 = .ok (.newarray .int, 2) := by decide +kernel
theorem dX0_init_28 : decode cX0_init 28 = .ok (.putfield 22, 3) := by decide +kernel
theorem dX0_init_31 : decode cX0_init 31 = .ok (.aload_n 0, 1) := by decide +kernel
theorem dX0_init_32 : decode cX0_init 32 = .ok (.bipush 120, 2) := by decide +kernel
theorem dX0_init_34 : decode cX0_init 34 = .ok (.newarray .int, 2) := by decide +kernel
theorem dX0_init_36 : decode cX0_init 36 = .ok (.putfield 25, 3) := by decide +kernel
theorem dX0_init_39 : decode cX0_init 39 = .ok (.iconst 0, 1) := by decide +kernel
theorem dX0_init_40 : decode cX0_init 40 = .ok (.istore_n 1, 1) := by decide +kernel
theorem dX0_init_41 : decode cX0_init 41 = .ok (.iload_n 1, 1) := by decide +kernel
theorem dX0_init_42 : decode cX0_init 42 = .ok (.aload_n 0, 1) := by decide +kernel
theorem dX0_init_43 : decode cX0_init 43 = .ok (.getfield 25, 3) := by decide +kernel
theorem dX0_init_46 : decode cX0_init 46 = .ok (.arraylength, 1) := by decide +kernel
theorem dX0_init_47 : decode cX0_init 47 = .ok (.if_icmp .ge 16, 3) := by decide +kernel
theorem dX0_init_50 : decode cX0_init 50 = .ok (.aload_n 0, 1) := by decide +kernel
theorem dX0_init_51 : decode cX0_init 51 = .ok (.getfield 25, 3) := by decide +kernel
theorem dX0_init_54 : decode cX0_init 54 = .ok (.iload_n 1, 1) := by decide +kernel
theorem dX0_init_55 : decode cX0_init 55 = .ok (.iconst 5, 1) := by decide +kernel
theorem dX0_init_56 : decode cX0_init 56 = .ok (.iastore, 1) := by decide +kernel
theorem dX0_init_57 : decode cX0_init 57 = .ok (.iinc 1 1, 3) := by decide +kernel
theorem dX0_init_60 : decode cX0_init 60 = .ok (.goto (-19), 3) := by decide +kernel
theorem dX0_init_63 : decode cX0_init 63 = .ok (.aload_n 0, 1) := by decide +kernel
theorem dX0_init_64 : decode cX0_init 64 = .ok (.bipush 120, 2) := by decide +kernel
theorem dX0_init_66 : decode cX0_init 66 = .ok (.newarray .int, 2) := by decide +kernel
theorem dX0_init_68 : decode cX0_init 68 = .ok (.putfield 28, 3) := by decide +kernel
theorem dX0_init_71 : decode cX0_init 71 = .ok (.iconst 0, 1) := by decide +kernel
theorem dX0_init_72 : decode cX0_init 72 = .ok (.istore_n 1, 1) := by decide +kernel
theorem dX0_init_73 : decode cX0_init 73 = .ok (.iload_n 1, 1) := by decide +kernel
theorem dX0_init_74 : decode cX0_init 74 = .ok (.aload_n 0, 1) := by decide +kernel
theorem dX0_init_75 : decode cX0_init 75 = .ok (.getfield 28, 3) := by decide +kernel
theorem dX0_init_78 : decode cX0_init 78 = .ok (.arraylength, 1) := by decide +kernel
theorem dX0_init_79 : decode cX0_init 79 = .ok (.if_icmp .ge 17, 3) := by decide +kernel
theorem dX0_init_82 : decode cX0_init 82 = .ok (.aload_n 0, 1) := by decide +kernel
theorem dX0_init_83 : decode cX0_init 83 = .ok (.getfield 28, 3) := by decide +kernel
theorem dX0_init_86 : decode cX0_init 86 = .ok (.iload_n 1, 1) := by decide +kernel
theorem dX0_init_87 : decode cX0_init 87 = .ok (.bipush (-6), 2) := by decide +kernel
theorem dX0_init_89 : decode cX0_init 89 = .ok (.iastore, 1) := by decide +kernel
theorem dX0_init_90 : decode cX0_init 90 = .ok (.iinc 1 1, 3) := by decide +kernel
theorem dX0_init_93 : decode cX0_init 93 = .ok (.goto (-20), 3) := by decide +kernel
theorem dX0_init_96 : decode cX0_init 96 = .ok (.return_, 1) := by decide +kernel
theorem dX0_bitsOf_0 : decode cX0_bitsOf 0 = .ok (.iload_n 2, 1) := by decide +kernel
theorem dX0_bitsOf_1 : decode cX0_bitsOf 1 = .ok (.bipush 16, 2) := by decide +kernel
theorem dX0_bitsOf_3 : decode cX0_bitsOf 3 = .ok (.imul, 1) := by decide +kernel
theorem dX0_bitsOf_4 : decode cX0_bitsOf 4 = .ok (.iload_n 1, 1) := by decide +kernel
theorem dX0_bitsOf_5 : decode cX0_bitsOf 5 = .ok (.iadd, 1) := by decide +kernel
theorem dX0_bitsOf_6 : decode cX0_bitsOf 6 = .ok (.istore_n 3, 1) := by decide +kernel
theorem dX0_bitsOf_7 : decode cX0_bitsOf 7 = .ok (.iload_n 3, 1) := by decide +kernel
theorem dX0_bitsOf_8 : decode cX0_bitsOf 8 = .ok (.ifCond .lt 21, 3) := by decide +kernel
theorem dX0_bitsOf_11 : decode cX0_bitsOf 11 = .ok (.iload_n 3, 1) := by decide +kernel
theorem dX0_bitsOf_12 : decode cX0_bitsOf 12 = .ok (.aload_n 0, 1) := by decide +kernel
theorem dX0_bitsOf_13 : decode cX0_bitsOf 13 = .ok (.getfield 18, 3) := by decide +kernel
theorem dX0_bitsOf_16 : decode cX0_bitsOf 16 = .ok (.arraylength, 1) := by decide +kernel
theorem dX0_bitsOf_17 : decode cX0_bitsOf 17 = .ok (.if_icmp .ge 12, 3) := by decide +kernel
theorem dX0_bitsOf_20 : decode cX0_bitsOf 20 = .ok (.aload_n 0, 1) := by decide +kernel
theorem dX0_bitsOf_21 : decode cX0_bitsOf 21 = .ok (.getfield 18, 3) := by decide +kernel
theorem dX0_bitsOf_24 : decode cX0_bitsOf 24 = .ok (.iload_n 3, 1) := by decide +kernel
theorem dX0_bitsOf_25 : decode cX0_bitsOf 25 = .ok (.iaload, 1) := by decide +kernel
theorem dX0_bitsOf_26 : decode cX0_bitsOf 26 = .ok (.goto 4, 3) := by decide +kernel
theorem dX0_bitsOf_29 : decode cX0_bitsOf 29 = .ok (.iconst 0, 1) := by decide +kernel
theorem dX0_bitsOf_30 : decode cX0_bitsOf 30 = .ok (.ireturn, 1) := by decide +kernel
theorem dX0_writeBits_0 : decode cX0_writeBits 0 = .ok (.iload_n 2, 1) := by decide +kernel
theorem dX0_writeBits_1 : decode cX0_writeBits 1 = .ok (.bipush 16, 2) := by decide +kernel
theorem dX0_writeBits_3 : decode cX0_writeBits 3 = .ok (.imul, 1) := by decide +kernel
theorem dX0_writeBits_4 : decode cX0_writeBits 4 = .ok (.iload_n 1, 1) := by decide +kernel
theorem dX0_writeBits_5 : decode cX0_writeBits 5 = .ok (.iadd, 1) := by decide +kernel
theorem dX0_writeBits_6 : decode cX0_writeBits 6 = .ok (.istore 4, 2) := by decide +kernel
theorem dX0_writeBits_8 : decode cX0_writeBits 8 = .ok (.iload 4, 2) := by decide +kernel
theorem dX0_writeBits_10 : decode cX0_writeBits 10 = .ok (.ifCond .lt 21, 3) := by decide +kernel
theorem dX0_writeBits_13 : decode cX0_writeBits 13 = .ok (.iload 4, 2) := by decide +kernel
theorem dX0_writeBits_15 : decode cX0_writeBits 15 = .ok (.aload_n 0, 1) := by decide +kernel
theorem dX0_writeBits_16 : decode cX0_writeBits 16 = .ok (.getfield 18, 3) := by decide +kernel
theorem dX0_writeBits_19 : decode cX0_writeBits 19 = .ok (.arraylength, 1) := by decide +kernel
theorem dX0_writeBits_20 : decode cX0_writeBits 20 = .ok (.if_icmp .ge 11, 3) := by decide +kernel
theorem dX0_writeBits_23 : decode cX0_writeBits 23 = .ok (.aload_n 0, 1) := by decide +kernel
theorem dX0_writeBits_24 : decode cX0_writeBits 24 = .ok (.getfield 18, 3) := by decide +kernel
theorem dX0_writeBits_27 : decode cX0_writeBits 27 = .ok (.iload 4, 2) := by decide +kernel
theorem dX0_writeBits_29 : decode cX0_writeBits 29 = .ok (.iload_n 3, 1) := by decide +kernel
theorem dX0_writeBits_30 : decode cX0_writeBits 30 = .ok (.iastore, 1) := by decide +kernel
theorem dX0_writeBits_31 : decode cX0_writeBits 31 = .ok (.return_, 1) := by decide +kernel
theorem dX0_isMarkedOn_0 : decode cX0_isMarkedOn 0 = .ok (.iload_n 2, 1) := by decide +kernel
theorem dX0_isMarkedOn_1 : decode cX0_isMarkedOn 1 = .ok (.invokestatic 31, 3) := by decide +kernel
theorem dX0_isMarkedOn_4 : decode cX0_isMarkedOn 4 = .ok (.istore_n 3, 1) := by decide +kernel
theorem dX0_isMarkedOn_5 : decode cX0_isMarkedOn 5 = .ok (.aload_n 0, 1) := by decide +kernel
theorem dX0_isMarkedOn_6 : decode cX0_isMarkedOn 6 = .ok (.iload_n 1, 1) := by decide +kernel
theorem dX0_isMarkedOn_7 : decode cX0_isMarkedOn 7 = .ok (.iload_n 3, 1) := by decide +kernel
theorem dX0_isMarkedOn_8 : decode cX0_isMarkedOn 8 = .ok (.invokevirtual 35, 3) := by decide +kernel
theorem dX0_isMarkedOn_11 : decode cX0_isMarkedOn 11 = .ok (.iload_n 2, 1) := by decide +kernel
theorem dX0_isMarkedOn_12 : decode cX0_isMarkedOn 12 = .ok (.iload_n 3, 1) := by decide +kernel
theorem dX0_isMarkedOn_13 : decode cX0_isMarkedOn 13 = .ok (.invokestatic 39, 3) := by decide +kernel
theorem dX0_isMarkedOn_16 : decode cX0_isMarkedOn 16 = .ok (.isub, 1) := by decide +kernel
theorem dX0_isMarkedOn_17 : decode cX0_isMarkedOn 17 = .ok (.invokestatic 42, 3) := by decide +kernel
theorem dX0_isMarkedOn_20 : decode cX0_isMarkedOn 20 = .ok (.ireturn, 1) := by decide +kernel
theorem dX0_marksIn_0 : decode cX0_marksIn 0 = .ok (.iconst 0, 1) := by decide +kernel
theorem dX0_marksIn_1 : decode cX0_marksIn 1 = .ok (.istore_n 2, 1) := by decide +kernel
theorem dX0_marksIn_2 : decode cX0_marksIn 2 = .ok (.iconst 0, 1) := by decide +kernel
theorem dX0_marksIn_3 : decode cX0_marksIn 3 = .ok (.istore_n 3, 1) := by decide +kernel
theorem dX0_marksIn_4 : decode cX0_marksIn 4 = .ok (.iload_n 3, 1) := by decide +kernel
theorem dX0_marksIn_5 : decode cX0_marksIn 5 = .ok (.bipush 16, 2) := by decide +kernel
theorem dX0_marksIn_7 : decode cX0_marksIn 7 = .ok (.if_icmp .ge 21, 3) := by decide +kernel
theorem dX0_marksIn_10 : decode cX0_marksIn 10 = .ok (.iload_n 2, 1) := by decide +kernel
theorem dX0_marksIn_11 : decode cX0_marksIn 11 = .ok (.aload_n 0, 1) := by decide +kernel
theorem dX0_marksIn_12 : decode cX0_marksIn 12 = .ok (.iload_n 3, 1) := by decide +kernel
theorem dX0_marksIn_13 : decode cX0_marksIn 13 = .ok (.iload_n 1, 1) := by decide +kernel
theorem dX0_marksIn_14 : decode cX0_marksIn 14 = .ok (.invokevirtual 35, 3) := by decide +kernel
theorem dX0_marksIn_17 : decode cX0_marksIn 17 = .ok (.invokestatic 46, 3) := by decide +kernel
theorem dX0_marksIn_20 : decode cX0_marksIn 20 = .ok (.iadd, 1) := by decide +kernel
theorem dX0_marksIn_21 : decode cX0_marksIn 21 = .ok (.istore_n 2, 1) := by decide +kernel
theorem dX0_marksIn_22 : decode cX0_marksIn 22 = .ok (.iinc 3 1, 3) := by decide +kernel
theorem dX0_marksIn_25 : decode cX0_marksIn 25 = .ok (.goto (-21), 3) := by decide +kernel
theorem dX0_marksIn_28 : decode cX0_marksIn 28 = .ok (.iload_n 2, 1) := by decide +kernel
theorem dX0_marksIn_29 : decode cX0_marksIn 29 = .ok (.ireturn, 1) := by decide +kernel
theorem dX0_runsIn_0 : decode cX0_runsIn 0 = .ok (.iconst 0, 1) := by decide +kernel
theorem dX0_runsIn_1 : decode cX0_runsIn 1 = .ok (.istore_n 2, 1) := by decide +kernel
theorem dX0_runsIn_2 : decode cX0_runsIn 2 = .ok (.iconst 0, 1) := by decide +kernel
theorem dX0_runsIn_3 : decode cX0_runsIn 3 = .ok (.istore_n 3, 1) := by decide +kernel
theorem dX0_runsIn_4 : decode cX0_runsIn 4 = .ok (.iload_n 3, 1) := by decide +kernel
theorem dX0_runsIn_5 : decode cX0_runsIn 5 = .ok (.bipush 16, 2) := by decide +kernel
theorem dX0_runsIn_7 : decode cX0_runsIn 7 = .ok (.if_icmp .ge 32, 3) := by decide +kernel
theorem dX0_runsIn_10 : decode cX0_runsIn 10 = .ok (.aload_n 0, 1) := by decide +kernel
theorem dX0_runsIn_11 : decode cX0_runsIn 11 = .ok (.iload_n 3, 1) := by decide +kernel
theorem dX0_runsIn_12 : decode cX0_runsIn 12 = .ok (.iload_n 1, 1) := by decide +kernel
theorem dX0_runsIn_13 : decode cX0_runsIn 13 = .ok (.invokevirtual 35, 3) := by decide +kernel
theorem dX0_runsIn_16 : decode cX0_runsIn 16 = .ok (.istore 4, 2) := by decide +kernel
theorem dX0_runsIn_18 : decode cX0_runsIn 18 = .ok (.iload_n 2, 1) := by decide +kernel
theorem dX0_runsIn_19 : decode cX0_runsIn 19 = .ok (.iload 4, 2) := by decide +kernel
theorem dX0_runsIn_21 : decode cX0_runsIn 21 = .ok (.iload 4, 2) := by decide +kernel
theorem dX0_runsIn_23 : decode cX0_runsIn 23 = .ok (.iconst 1, 1) := by decide +kernel
theorem dX0_runsIn_24 : decode cX0_runsIn 24 = .ok (.ishl, 1) := by decide +kernel
theorem dX0_runsIn_25 : decode cX0_runsIn 25 = .ok (.iconst (-1), 1) := by decide +kernel
theorem dX0_runsIn_26 : decode cX0_runsIn 26 = .ok (.ixor, 1) := by decide +kernel
theorem dX0_runsIn_27 : decode cX0_runsIn 27 = .ok (.iand, 1) := by decide +kernel
theorem dX0_runsIn_28 : decode cX0_runsIn 28 = .ok (.invokestatic 46, 3) := by decide +kernel
theorem dX0_runsIn_31 : decode cX0_runsIn 31 = .ok (.iadd, 1) := by decide +kernel
theorem dX0_runsIn_32 : decode cX0_runsIn 32 = .ok (.istore_n 2, 1) := by decide +kernel
theorem dX0_runsIn_33 : decode cX0_runsIn 33 = .ok (.iinc 3 1, 3) := by decide +kernel
theorem dX0_runsIn_36 : decode cX0_runsIn 36 = .ok (.goto (-32), 3) := by decide +kernel
theorem dX0_runsIn_39 : decode cX0_runsIn 39 = .ok (.iload_n 2, 1) := by decide +kernel
theorem dX0_runsIn_40 : decode cX0_runsIn 40 = .ok (.ireturn, 1) := by decide +kernel
theorem dX0_subjectsIn_0 : decode cX0_subjectsIn 0 = .ok (.iconst 0, 1) := by decide +kernel
theorem dX0_subjectsIn_1 : decode cX0_subjectsIn 1 = .ok (.istore_n 2, 1) := by decide +kernel
theorem dX0_subjectsIn_2 : decode cX0_subjectsIn 2 = .ok (.iconst 0, 1) := by decide +kernel
theorem dX0_subjectsIn_3 : decode cX0_subjectsIn 3 = .ok (.istore_n 3, 1) := by decide +kernel
theorem dX0_subjectsIn_4 : decode cX0_subjectsIn 4 = .ok (.iload_n 3, 1) := by decide +kernel
theorem dX0_subjectsIn_5 : decode cX0_subjectsIn 5 = .ok (.bipush 16, 2) := by decide +kernel
theorem dX0_subjectsIn_7 : decode cX0_subjectsIn 7 = .ok (.if_icmp .ge 24, 3) := by decide +kernel
theorem dX0_subjectsIn_10 : decode cX0_subjectsIn 10 = .ok (.aload_n 0, 1) := by decide +kernel
theorem dX0_subjectsIn_11 : decode cX0_subjectsIn 11 = .ok (.iload_n 3, 1) := by decide +kernel
theorem dX0_subjectsIn_12 : decode cX0_subjectsIn 12 = .ok (.iload_n 1, 1) := by decide +kernel
theorem dX0_subjectsIn_13 : decode cX0_subjectsIn 13 = .ok (.invokevirtual 35, 3) := by decide +kernel
theorem dX0_subjectsIn_16 : decode cX0_subjectsIn 16 = .ok (.ifCond .eq 9, 3) := by decide +kernel
theorem dX0_subjectsIn_19 : decode cX0_subjectsIn 19 = .ok (.iload_n 2, 1) := by decide +kernel
theorem dX0_subjectsIn_20 : decode cX0_subjectsIn 20 = .ok (.iconst 1, 1) := by decide +kernel
theorem dX0_subjectsIn_21 : decode cX0_subjectsIn 21 = .ok (.iload_n 3, 1) := by decide +kernel
theorem dX0_subjectsIn_22 : decode cX0_subjectsIn 22 = .ok (.ishl, 1) := by decide +kernel
theorem dX0_subjectsIn_23 : decode cX0_subjectsIn 23 = .ok (.ior, 1) := by decide +kernel
theorem dX0_subjectsIn_24 : decode cX0_subjectsIn 24 = .ok (.istore_n 2, 1) := by decide +kernel
theorem dX0_subjectsIn_25 : decode cX0_subjectsIn 25 = .ok (.iinc 3 1, 3) := by decide +kernel
theorem dX0_subjectsIn_28 : decode cX0_subjectsIn 28 = .ok (.goto (-24), 3) := by decide +kernel
theorem dX0_subjectsIn_31 : decode cX0_subjectsIn 31 = .ok (.iload_n 2, 1) := by decide +kernel
theorem dX0_subjectsIn_32 : decode cX0_subjectsIn 32 = .ok (.ireturn, 1) := by decide +kernel
theorem dX0_crowdedDays_0 : decode cX0_crowdedDays 0 = .ok (.iconst 0, 1) := by decide +kernel
theorem dX0_crowdedDays_1 : decode cX0_crowdedDays 1 = .ok (.istore 4, 2) := by decide +kernel
theorem dX0_crowdedDays_3 : decode cX0_crowdedDays 3 = .ok (.iconst 0, 1) := by decide +kernel
theorem dX0_crowdedDays_4 : decode cX0_crowdedDays 4 = .ok (.istore 5, 2) := by decide +kernel
theorem dX0_crowdedDays_6 : decode cX0_crowdedDays 6 = .ok (.iload 5, 2) := by decide +kernel
theorem dX0_crowdedDays_8 : decode cX0_crowdedDays 8 = .ok (.bipush 31, 2) := by decide +kernel
theorem dX0_crowdedDays_10 : decode cX0_crowdedDays 10 = .ok (.if_icmp .ge 32, 3) := by decide +kernel
theorem dX0_crowdedDays_13 : decode cX0_crowdedDays 13 = .ok (.iload_n 3, 1) := by decide +kernel
theorem dX0_crowdedDays_14 : decode cX0_crowdedDays 14 = .ok (.iload 5, 2) := by decide +kernel
theorem dX0_crowdedDays_16 : decode cX0_crowdedDays 16 = .ok (.invokestatic 42, 3) := by decide +kernel
theorem dX0_crowdedDays_19 : decode cX0_crowdedDays 19 = .ok (.ifCond .eq 17, 3) := by decide +kernel
theorem dX0_crowdedDays_22 : decode cX0_crowdedDays 22 = .ok (.aload_n 0, 1) := by decide +kernel
theorem dX0_crowdedDays_23 : decode cX0_crowdedDays 23 = .ok (.iload_n 2, 1) := by decide +kernel
theorem dX0_crowdedDays_24 : decode cX0_crowdedDays 24 = .ok (.iload 5, 2) := by decide +kernel
theorem dX0_crowdedDays_26 : decode cX0_crowdedDays 26 = .ok (.invokevirtual 51, 3) := by decide +kernel
theorem dX0_crowdedDays_29 : decode cX0_crowdedDays 29 = .ok (.iload_n 1, 1) := by decide +kernel
theorem dX0_crowdedDays_30 : decode cX0_crowdedDays 30 = .ok (.if_icmp .lt 6, 3) := by decide +kernel
theorem dX0_crowdedDays_33 : decode cX0_crowdedDays 33 = .ok (.iinc 4 1, 3) := by decide +kernel
theorem dX0_crowdedDays_36 : decode cX0_crowdedDays 36 = .ok (.iinc 5 1, 3) := by decide +kernel
theorem dX0_crowdedDays_39 : decode cX0_crowdedDays 39 = .ok (.goto (-33), 3) := by decide +kernel
theorem dX0_crowdedDays_42 : decode cX0_crowdedDays 42 = .ok (.iload 4, 2) := by decide +kernel
theorem dX0_crowdedDays_44 : decode cX0_crowdedDays 44 = .ok (.ireturn, 1) := by decide +kernel
theorem dX0_subjectsOn_0 : decode cX0_subjectsOn 0 = .ok (.iconst 0, 1) := by decide +kernel
theorem dX0_subjectsOn_1 : decode cX0_subjectsOn 1 = .ok (.istore_n 3, 1) := by decide +kernel
theorem dX0_subjectsOn_2 : decode cX0_subjectsOn 2 = .ok (.iconst 0, 1) := by decide +kernel
theorem dX0_subjectsOn_3 : decode cX0_subjectsOn 3 = .ok (.istore 4, 2) := by decide +kernel
theorem dX0_subjectsOn_5 : decode cX0_subjectsOn 5 = .ok (.iload 4, 2) := by decide +kernel
theorem dX0_subjectsOn_7 : decode cX0_subjectsOn 7 = .ok (.bipush 16, 2) := by decide +kernel
theorem dX0_subjectsOn_9 : decode cX0_subjectsOn 9 = .ok (.if_icmp .ge 26, 3) := by decide +kernel
theorem dX0_subjectsOn_12 : decode cX0_subjectsOn 12 = .ok (.aload_n 0, 1) := by decide +kernel
theorem dX0_subjectsOn_13 : decode cX0_subjectsOn 13 = .ok (.iload 4, 2) := by decide +kernel
theorem dX0_subjectsOn_15 : decode cX0_subjectsOn 15 = .ok (.iload_n 1, 1) := by decide +kernel
theorem dX0_subjectsOn_16 : decode cX0_subjectsOn 16 = .ok (.invokevirtual 35, 3) := by decide +kernel
theorem dX0_subjectsOn_19 : decode cX0_subjectsOn 19 = .ok (.iload_n 2, 1) := by decide +kernel
theorem dX0_subjectsOn_20 : decode cX0_subjectsOn 20 = .ok (.invokestatic 42, 3) := by decide +kernel
theorem dX0_subjectsOn_23 : decode cX0_subjectsOn 23 = .ok (.ifCond .eq 6, 3) := by decide +kernel
theorem dX0_subjectsOn_26 : decode cX0_subjectsOn 26 = .ok (.iinc 3 1, 3) := by decide +kernel
theorem dX0_subjectsOn_29 : decode cX0_subjectsOn 29 = .ok (.iinc 4 1, 3) := by decide +kernel
theorem dX0_subjectsOn_32 : decode cX0_subjectsOn 32 = .ok (.goto (-27), 3) := by decide +kernel
theorem dX0_subjectsOn_35 : decode cX0_subjectsOn 35 = .ok (.iload_n 3, 1) := by decide +kernel
theorem dX0_subjectsOn_36 : decode cX0_subjectsOn 36 = .ok (.ireturn, 1) := by decide +kernel
theorem dX0_allMarks_0 : decode cX0_allMarks 0 = .ok (.iconst 0, 1) := by decide +kernel
theorem dX0_allMarks_1 : decode cX0_allMarks 1 = .ok (.istore_n 1, 1) := by decide +kernel
theorem dX0_allMarks_2 : decode cX0_allMarks 2 = .ok (.iconst 0, 1) := by decide +kernel
theorem dX0_allMarks_3 : decode cX0_allMarks 3 = .ok (.istore_n 2, 1) := by decide +kernel
theorem dX0_allMarks_4 : decode cX0_allMarks 4 = .ok (.iload_n 2, 1) := by decide +kernel
theorem dX0_allMarks_5 : decode cX0_allMarks 5 = .ok (.bipush 120, 2) := by decide +kernel
theorem dX0_allMarks_7 : decode cX0_allMarks 7 = .ok (.if_icmp .ge 17, 3) := by decide +kernel
theorem dX0_allMarks_10 : decode cX0_allMarks 10 = .ok (.iload_n 1, 1) := by decide +kernel
theorem dX0_allMarks_11 : decode cX0_allMarks 11 = .ok (.aload_n 0, 1) := by decide +kernel
theorem dX0_allMarks_12 : decode cX0_allMarks 12 = .ok (.iload_n 2, 1) := by decide +kernel
theorem dX0_allMarks_13 : decode cX0_allMarks 13 = .ok (.invokevirtual 54, 3) := by decide +kernel
theorem dX0_allMarks_16 : decode cX0_allMarks 16 = .ok (.iadd, 1) := by decide +kernel
theorem dX0_allMarks_17 : decode cX0_allMarks 17 = .ok (.istore_n 1, 1) := by decide +kernel
theorem dX0_allMarks_18 : decode cX0_allMarks 18 = .ok (.iinc 2 1, 3) := by decide +kernel
theorem dX0_allMarks_21 : decode cX0_allMarks 21 = .ok (.goto (-17), 3) := by decide +kernel
theorem dX0_allMarks_24 : decode cX0_allMarks 24 = .ok (.iload_n 1, 1) := by decide +kernel
theorem dX0_allMarks_25 : decode cX0_allMarks 25 = .ok (.ireturn, 1) := by decide +kernel
theorem dX0_oldMonths_0 : decode cX0_oldMonths 0 = .ok (.iconst 0, 1) := by decide +kernel
theorem dX0_oldMonths_1 : decode cX0_oldMonths 1 = .ok (.aload_n 0, 1) := by decide +kernel
theorem dX0_oldMonths_2 : decode cX0_oldMonths 2 = .ok (.getfield 57, 3) := by decide +kernel
theorem dX0_oldMonths_5 : decode cX0_oldMonths 5 = .ok (.invokestatic 31, 3) := by decide +kernel
theorem dX0_oldMonths_8 : decode cX0_oldMonths 8 = .ok (.aload_n 0, 1) := by decide +kernel
theorem dX0_oldMonths_9 : decode cX0_oldMonths 9 = .ok (.getfield 9, 3) := by decide +kernel
theorem dX0_oldMonths_12 : decode cX0_oldMonths 12 = .ok (.isub, 1) := by decide +kernel
theorem dX0_oldMonths_13 : decode cX0_oldMonths 13 = .ok (.iconst 1, 1) := by decide +kernel
theorem dX0_oldMonths_14 : decode cX0_oldMonths 14 = .ok (.iadd, 1) := by decide +kernel
theorem dX0_oldMonths_15 : decode cX0_oldMonths 15 = .ok (.invokestatic 60, 3) := by decide +kernel
theorem dX0_oldMonths_18 : decode cX0_oldMonths 18 = .ok (.ireturn, 1) := by decide +kernel
theorem dX0_isOld_0 : decode cX0_isOld 0 = .ok (.iload_n 1, 1) := by decide +kernel
theorem dX0_isOld_1 : decode cX0_isOld 1 = .ok (.aload_n 0, 1) := by decide +kernel
theorem dX0_isOld_2 : decode cX0_isOld 2 = .ok (.invokevirtual 65, 3) := by decide +kernel
theorem dX0_isOld_5 : decode cX0_isOld 5 = .ok (.if_icmp .ge 7, 3) := by decide +kernel
theorem dX0_isOld_8 : decode cX0_isOld 8 = .ok (.iconst 1, 1) := by decide +kernel
theorem dX0_isOld_9 : decode cX0_isOld 9 = .ok (.goto 4, 3) := by decide +kernel
theorem dX0_isOld_12 : decode cX0_isOld 12 = .ok (.iconst 0, 1) := by decide +kernel
theorem dX0_isOld_13 : decode cX0_isOld 13 = .ok (.ireturn, 1) := by decide +kernel
theorem dX0_formOf_0 : decode cX0_formOf 0 = .ok (.iload_n 1, 1) := by decide +kernel
theorem dX0_formOf_1 : decode cX0_formOf 1 = .ok (.invokestatic 69, 3) := by decide +kernel
theorem dX0_formOf_4 : decode cX0_formOf 4 = .ok (.ifCond .eq 12, 3) := by decide +kernel
theorem dX0_formOf_7 : decode cX0_formOf 7 = .ok (.aload_n 0, 1) := by decide +kernel
theorem dX0_formOf_8 : decode cX0_formOf 8 = .ok (.getfield 25, 3) := by decide +kernel
theorem dX0_formOf_11 : decode cX0_formOf 11 = .ok (.iload_n 1, 1) := by decide +kernel
theorem dX0_formOf_12 : decode cX0_formOf 12 = .ok (.iaload, 1) := by decide +kernel
theorem dX0_formOf_13 : decode cX0_formOf 13 = .ok (.goto 4, 3) := by decide +kernel
theorem dX0_formOf_16 : decode cX0_formOf 16 = .ok (.iconst 5, 1) := by decide +kernel
theorem dX0_formOf_17 : decode cX0_formOf 17 = .ok (.ireturn, 1) := by decide +kernel
theorem dX0_namedBy_0 : decode cX0_namedBy 0 = .ok (.iload_n 1, 1) := by decide +kernel
theorem dX0_namedBy_1 : decode cX0_namedBy 1 = .ok (.invokestatic 69, 3) := by decide +kernel
theorem dX0_namedBy_4 : decode cX0_namedBy 4 = .ok (.ifCond .eq 12, 3) := by decide +kernel
theorem dX0_namedBy_7 : decode cX0_namedBy 7 = .ok (.aload_n 0, 1) := by decide +kernel
theorem dX0_namedBy_8 : decode cX0_namedBy 8 = .ok (.getfield 28, 3) := by decide +kernel
theorem dX0_namedBy_11 : decode cX0_namedBy 11 = .ok (.iload_n 1, 1) := by decide +kernel
theorem dX0_namedBy_12 : decode cX0_namedBy 12 = .ok (.iaload, 1) := by decide +kernel
theorem dX0_namedBy_13 : decode cX0_namedBy 13 = .ok (.goto 5, 3) := by decide +kernel
theorem dX0_namedBy_16 : decode cX0_namedBy 16 = .ok (.bipush (-6), 2) := by decide +kernel
theorem dX0_namedBy_18 : decode cX0_namedBy 18 = .ok (.ireturn, 1) := by decide +kernel
theorem dX0_sizeOf_0 : decode cX0_sizeOf 0 = .ok (.aload_n 0, 1) := by decide +kernel
theorem dX0_sizeOf_1 : decode cX0_sizeOf 1 = .ok (.iload_n 1, 1) := by decide +kernel
theorem dX0_sizeOf_2 : decode cX0_sizeOf 2 = .ok (.aload_n 0, 1) := by decide +kernel
theorem dX0_sizeOf_3 : decode cX0_sizeOf 3 = .ok (.iload_n 1, 1) := by decide +kernel
theorem dX0_sizeOf_4 : decode cX0_sizeOf 4 = .ok (.invokevirtual 73, 3) := by decide +kernel
theorem dX0_sizeOf_7 : decode cX0_sizeOf 7 = .ok (.aload_n 0, 1) := by decide +kernel
theorem dX0_sizeOf_8 : decode cX0_sizeOf 8 = .ok (.iload_n 1, 1) := by decide +kernel
theorem dX0_sizeOf_9 : decode cX0_sizeOf 9 = .ok (.invokevirtual 76, 3) := by decide +kernel
theorem dX0_sizeOf_12 : decode cX0_sizeOf 12 = .ok (.invokevirtual 79, 3) := by decide +kernel
theorem dX0_sizeOf_15 : decode cX0_sizeOf 15 = .ok (.ireturn, 1) := by decide +kernel
theorem dX0_allSizes_0 : decode cX0_allSizes 0 = .ok (.iconst 0, 1) := by decide +kernel
theorem dX0_allSizes_1 : decode cX0_allSizes 1 = .ok (.istore_n 1, 1) := by decide +kernel
theorem dX0_allSizes_2 : decode cX0_allSizes 2 = .ok (.aload_n 0, 1) := by decide +kernel
theorem dX0_allSizes_3 : decode cX0_allSizes 3 = .ok (.getfield 57, 3) := by decide +kernel
theorem dX0_allSizes_6 : decode cX0_allSizes 6 = .ok (.invokestatic 31, 3) := by decide +kernel
theorem dX0_allSizes_9 : decode cX0_allSizes 9 = .ok (.istore_n 2, 1) := by decide +kernel
theorem dX0_allSizes_10 : decode cX0_allSizes 10 = .ok (.iconst 0, 1) := by decide +kernel
theorem dX0_allSizes_11 : decode cX0_allSizes 11 = .ok (.istore_n 3, 1) := by decide +kernel
theorem dX0_allSizes_12 : decode cX0_allSizes 12 = .ok (.iload_n 3, 1) := by decide +kernel
theorem dX0_allSizes_13 : decode cX0_allSizes 13 = .ok (.iload_n 2, 1) := by decide +kernel
theorem dX0_allSizes_14 : decode cX0_allSizes 14 = .ok (.if_icmp .gt 17, 3) := by decide +kernel
theorem dX0_allSizes_17 : decode cX0_allSizes 17 = .ok (.iload_n 1, 1) := by decide +kernel
theorem dX0_allSizes_18 : decode cX0_allSizes 18 = .ok (.aload_n 0, 1) := by decide +kernel
theorem dX0_allSizes_19 : decode cX0_allSizes 19 = .ok (.iload_n 3, 1) := by decide +kernel
theorem dX0_allSizes_20 : decode cX0_allSizes 20 = .ok (.invokevirtual 83, 3) := by decide +kernel
theorem dX0_allSizes_23 : decode cX0_allSizes 23 = .ok (.iadd, 1) := by decide +kernel
theorem dX0_allSizes_24 : decode cX0_allSizes 24 = .ok (.istore_n 1, 1) := by decide +kernel
theorem dX0_allSizes_25 : decode cX0_allSizes 25 = .ok (.iinc 3 1, 3) := by decide +kernel
theorem dX0_allSizes_28 : decode cX0_allSizes 28 = .ok (.goto (-16), 3) := by decide +kernel
theorem dX0_allSizes_31 : decode cX0_allSizes 31 = .ok (.iload_n 1, 1) := by decide +kernel
theorem dX0_allSizes_32 : decode cX0_allSizes 32 = .ok (.ireturn, 1) := by decide +kernel
theorem dX0_sizeIn_0 : decode cX0_sizeIn 0 = .ok (.iload_n 2, 1) := by decide +kernel
theorem dX0_sizeIn_1 : decode cX0_sizeIn 1 = .ok (.tableswitch 81 0 3 #[31, 46, 59, 67], 31) := by decide +kernel
theorem dX0_sizeIn_32 : decode cX0_sizeIn 32 = .ok (.aload_n 0, 1) := by decide +kernel
theorem dX0_sizeIn_33 : decode cX0_sizeIn 33 = .ok (.iload_n 1, 1) := by decide +kernel
theorem dX0_sizeIn_34 : decode cX0_sizeIn 34 = .ok (.invokevirtual 54, 3) := by decide +kernel
theorem dX0_sizeIn_37 : decode cX0_sizeIn 37 = .ok (.ifCond .ne 7, 3) := by decide +kernel
theorem dX0_sizeIn_40 : decode cX0_sizeIn 40 = .ok (.iconst 0, 1) := by decide +kernel
theorem dX0_sizeIn_41 : decode cX0_sizeIn 41 = .ok (.goto 5, 3) := by decide +kernel
theorem dX0_sizeIn_44 : decode cX0_sizeIn 44 = .ok (.bipush (-6), 2) := by decide +kernel
theorem dX0_sizeIn_46 : decode cX0_sizeIn 46 = .ok (.ireturn, 1) := by decide +kernel
theorem dX0_sizeIn_47 : decode cX0_sizeIn 47 = .ok (.iload_n 3, 1) := by decide +kernel
theorem dX0_sizeIn_48 : decode cX0_sizeIn 48 = .ok (.bipush (-6), 2) := by decide +kernel
theorem dX0_sizeIn_50 : decode cX0_sizeIn 50 = .ok (.if_icmp .ne 8, 3) := by decide +kernel
theorem dX0_sizeIn_53 : decode cX0_sizeIn 53 = .ok (.bipush (-6), 2) := by decide +kernel
theorem dX0_sizeIn_55 : decode cX0_sizeIn 55 = .ok (.goto 4, 3) := by decide +kernel
theorem dX0_sizeIn_58 : decode cX0_sizeIn 58 = .ok (.iconst 1, 1) := by decide +kernel
theorem dX0_sizeIn_59 : decode cX0_sizeIn 59 = .ok (.ireturn, 1) := by decide +kernel
theorem dX0_sizeIn_60 : decode cX0_sizeIn 60 = .ok (.iconst 1, 1) := by decide +kernel
theorem dX0_sizeIn_61 : decode cX0_sizeIn 61 = .ok (.aload_n 0, 1) := by decide +kernel
theorem dX0_sizeIn_62 : decode cX0_sizeIn 62 = .ok (.iload_n 1, 1) := by decide +kernel
theorem dX0_sizeIn_63 : decode cX0_sizeIn 63 = .ok (.invokevirtual 86, 3) := by decide +kernel
theorem dX0_sizeIn_66 : decode cX0_sizeIn 66 = .ok (.iadd, 1) := by decide +kernel
theorem dX0_sizeIn_67 : decode cX0_sizeIn 67 = .ok (.ireturn, 1) := by decide +kernel
theorem dX0_sizeIn_68 : decode cX0_sizeIn 68 = .ok (.iconst 1, 1) := by decide +kernel
theorem dX0_sizeIn_69 : decode cX0_sizeIn 69 = .ok (.aload_n 0, 1) := by decide +kernel
theorem dX0_sizeIn_70 : decode cX0_sizeIn 70 = .ok (.iload_n 1, 1) := by decide +kernel
theorem dX0_sizeIn_71 : decode cX0_sizeIn 71 = .ok (.invokevirtual 54, 3) := by decide +kernel
theorem dX0_sizeIn_74 : decode cX0_sizeIn 74 = .ok (.iconst 3, 1) := by decide +kernel
theorem dX0_sizeIn_75 : decode cX0_sizeIn 75 = .ok (.iadd, 1) := by decide +kernel
theorem dX0_sizeIn_76 : decode cX0_sizeIn 76 = .ok (.iconst 1, 1) := by decide +kernel
theorem dX0_sizeIn_77 : decode cX0_sizeIn 77 = .ok (.isub, 1) := by decide +kernel
theorem dX0_sizeIn_78 : decode cX0_sizeIn 78 = .ok (.iconst 3, 1) := by decide +kernel
theorem dX0_sizeIn_79 : decode cX0_sizeIn 79 = .ok (.idiv, 1) := by decide +kernel
theorem dX0_sizeIn_80 : decode cX0_sizeIn 80 = .ok (.iadd, 1) := by decide +kernel
theorem dX0_sizeIn_81 : decode cX0_sizeIn 81 = .ok (.ireturn, 1) := by decide +kernel
theorem dX0_sizeIn_82 : decode cX0_sizeIn 82 = .ok (.bipush 16, 2) := by decide +kernel
theorem dX0_sizeIn_84 : decode cX0_sizeIn 84 = .ok (.ireturn, 1) := by decide +kernel
theorem dX0_twinOf_0 : decode cX0_twinOf 0 = .ok (.iconst 0, 1) := by decide +kernel
theorem dX0_twinOf_1 : decode cX0_twinOf 1 = .ok (.istore_n 3, 1) := by decide +kernel
theorem dX0_twinOf_2 : decode cX0_twinOf 2 = .ok (.iload_n 3, 1) := by decide +kernel
theorem dX0_twinOf_3 : decode cX0_twinOf 3 = .ok (.iload_n 1, 1) := by decide +kernel
theorem dX0_twinOf_4 : decode cX0_twinOf 4 = .ok (.if_icmp .ge 66, 3) := by decide +kernel
theorem dX0_twinOf_7 : decode cX0_twinOf 7 = .ok (.iload_n 3, 1) := by decide +kernel
theorem dX0_twinOf_8 : decode cX0_twinOf 8 = .ok (.aload_n 0, 1) := by decide +kernel
theorem dX0_twinOf_9 : decode cX0_twinOf 9 = .ok (.getfield 25, 3) := by decide +kernel
theorem dX0_twinOf_12 : decode cX0_twinOf 12 = .ok (.arraylength, 1) := by decide +kernel
theorem dX0_twinOf_13 : decode cX0_twinOf 13 = .ok (.if_icmp .ge 57, 3) := by decide +kernel
theorem dX0_twinOf_16 : decode cX0_twinOf 16 = .ok (.aload_n 0, 1) := by decide +kernel
theorem dX0_twinOf_17 : decode cX0_twinOf 17 = .ok (.getfield 25, 3) := by decide +kernel
theorem dX0_twinOf_20 : decode cX0_twinOf 20 = .ok (.iload_n 3, 1) := by decide +kernel
theorem dX0_twinOf_21 : decode cX0_twinOf 21 = .ok (.iaload, 1) := by decide +kernel
theorem dX0_twinOf_22 : decode cX0_twinOf 22 = .ok (.istore 4, 2) := by decide +kernel
theorem dX0_twinOf_24 : decode cX0_twinOf 24 = .ok (.iload 4, 2) := by decide +kernel
theorem dX0_twinOf_26 : decode cX0_twinOf 26 = .ok (.iconst 5, 1) := by decide +kernel
theorem dX0_twinOf_27 : decode cX0_twinOf 27 = .ok (.if_icmp .eq 18, 3) := by decide +kernel
theorem dX0_twinOf_30 : decode cX0_twinOf 30 = .ok (.iload 4, 2) := by decide +kernel
theorem dX0_twinOf_32 : decode cX0_twinOf 32 = .ok (.iconst 1, 1) := by decide +kernel
theorem dX0_twinOf_33 : decode cX0_twinOf 33 = .ok (.if_icmp .eq 12, 3) := by decide +kernel
theorem dX0_twinOf_36 : decode cX0_twinOf 36 = .ok (.iload_n 3, 1) := by decide +kernel
theorem dX0_twinOf_37 : decode cX0_twinOf 37 = .ok (.iload_n 2, 1) := by decide +kernel
theorem dX0_twinOf_38 : decode cX0_twinOf 38 = .ok (.if_icmp .eq 7, 3) := by decide +kernel
theorem dX0_twinOf_41 : decode cX0_twinOf 41 = .ok (.iconst 1, 1) := by decide +kernel
theorem dX0_twinOf_42 : decode cX0_twinOf 42 = .ok (.goto 4, 3) := by decide +kernel
theorem dX0_twinOf_45 : decode cX0_twinOf 45 = .ok (.iconst 0, 1) := by decide +kernel
theorem dX0_twinOf_46 : decode cX0_twinOf 46 = .ok (.istore 5, 2) := by decide +kernel
theorem dX0_twinOf_48 : decode cX0_twinOf 48 = .ok (.iload 5, 2) := by decide +kernel
theorem dX0_twinOf_50 : decode cX0_twinOf 50 = .ok (.ifCond .eq 14, 3) := by decide +kernel
theorem dX0_twinOf_53 : decode cX0_twinOf 53 = .ok (.aload_n 0, 1) := by decide +kernel
theorem dX0_twinOf_54 : decode cX0_twinOf 54 = .ok (.iload_n 3, 1) := by decide +kernel
theorem dX0_twinOf_55 : decode cX0_twinOf 55 = .ok (.iload_n 1, 1) := by decide +kernel
theorem dX0_twinOf_56 : decode cX0_twinOf 56 = .ok (.invokevirtual 89, 3) := by decide +kernel
theorem dX0_twinOf_59 : decode cX0_twinOf 59 = .ok (.ifCond .eq 5, 3) := by decide +kernel
theorem dX0_twinOf_62 : decode cX0_twinOf 62 = .ok (.iload_n 3, 1) := by decide +kernel
theorem dX0_twinOf_63 : decode cX0_twinOf 63 = .ok (.ireturn, 1) := by decide +kernel
theorem dX0_twinOf_64 : decode cX0_twinOf 64 = .ok (.iinc 3 1, 3) := by decide +kernel
theorem dX0_twinOf_67 : decode cX0_twinOf 67 = .ok (.goto (-65), 3) := by decide +kernel
theorem dX0_twinOf_70 : decode cX0_twinOf 70 = .ok (.bipush (-6), 2) := by decide +kernel
theorem dX0_twinOf_72 : decode cX0_twinOf 72 = .ok (.ireturn, 1) := by decide +kernel
theorem dX0_hasSameMarks_0 : decode cX0_hasSameMarks 0 = .ok (.iconst 0, 1) := by decide +kernel
theorem dX0_hasSameMarks_1 : decode cX0_hasSameMarks 1 = .ok (.istore_n 3, 1) := by decide +kernel
theorem dX0_hasSameMarks_2 : decode cX0_hasSameMarks 2 = .ok (.iload_n 3, 1) := by decide +kernel
theorem dX0_hasSameMarks_3 : decode cX0_hasSameMarks 3 = .ok (.bipush 16, 2) := by decide +kernel
theorem dX0_hasSameMarks_5 : decode cX0_hasSameMarks 5 = .ok (.if_icmp .ge 26, 3) := by decide +kernel
theorem dX0_hasSameMarks_8 : decode cX0_hasSameMarks 8 = .ok (.aload_n 0, 1) := by decide +kernel
theorem dX0_hasSameMarks_9 : decode cX0_hasSameMarks 9 = .ok (.iload_n 3, 1) := by decide +kernel
theorem dX0_hasSameMarks_10 : decode cX0_hasSameMarks 10 = .ok (.iload_n 1, 1) := by decide +kernel
theorem dX0_hasSameMarks_11 : decode cX0_hasSameMarks 11 = .ok (.invokevirtual 35, 3) := by decide +kernel
theorem dX0_hasSameMarks_14 : decode cX0_hasSameMarks 14 = .ok (.aload_n 0, 1) := by decide +kernel
theorem dX0_hasSameMarks_15 : decode cX0_hasSameMarks 15 = .ok (.iload_n 3, 1) := by decide +kernel
theorem dX0_hasSameMarks_16 : decode cX0_hasSameMarks 16 = .ok (.iload_n 2, 1) := by decide +kernel
theorem dX0_hasSameMarks_17 : decode cX0_hasSameMarks 17 = .ok (.invokevirtual 35, 3) := by decide +kernel
theorem dX0_hasSameMarks_20 : decode cX0_hasSameMarks 20 = .ok (.if_icmp .eq 5, 3) := by decide +kernel
theorem dX0_hasSameMarks_23 : decode cX0_hasSameMarks 23 = .ok (.iconst 0, 1) := by decide +kernel
theorem dX0_hasSameMarks_24 : decode cX0_hasSameMarks 24 = .ok (.ireturn, 1) := by decide +kernel
theorem dX0_hasSameMarks_25 : decode cX0_hasSameMarks 25 = .ok (.iinc 3 1, 3) := by decide +kernel
theorem dX0_hasSameMarks_28 : decode cX0_hasSameMarks 28 = .ok (.goto (-26), 3) := by decide +kernel
theorem dX0_hasSameMarks_31 : decode cX0_hasSameMarks 31 = .ok (.iconst 1, 1) := by decide +kernel
theorem dX0_hasSameMarks_32 : decode cX0_hasSameMarks 32 = .ok (.ireturn, 1) := by decide +kernel
theorem dX0_fold_0 : decode cX0_fold 0 = .ok (.iload_n 1, 1) := by decide +kernel
theorem dX0_fold_1 : decode cX0_fold 1 = .ok (.invokestatic 69, 3) := by decide +kernel
theorem dX0_fold_4 : decode cX0_fold 4 = .ok (.ifCond .ne 4, 3) := by decide +kernel
theorem dX0_fold_7 : decode cX0_fold 7 = .ok (.return_, 1) := by decide +kernel
theorem dX0_fold_8 : decode cX0_fold 8 = .ok (.aload_n 0, 1) := by decide +kernel
theorem dX0_fold_9 : decode cX0_fold 9 = .ok (.iload_n 1, 1) := by decide +kernel
theorem dX0_fold_10 : decode cX0_fold 10 = .ok (.iload_n 2, 1) := by decide +kernel
theorem dX0_fold_11 : decode cX0_fold 11 = .ok (.invokevirtual 92, 3) := by decide +kernel
theorem dX0_fold_14 : decode cX0_fold 14 = .ok (.istore_n 3, 1) := by decide +kernel
theorem dX0_fold_15 : decode cX0_fold 15 = .ok (.iconst 4, 1) := by decide +kernel
theorem dX0_fold_16 : decode cX0_fold 16 = .ok (.istore 4, 2) := by decide +kernel
theorem dX0_fold_18 : decode cX0_fold 18 = .ok (.bipush 16, 2) := by decide +kernel
theorem dX0_fold_20 : decode cX0_fold 20 = .ok (.istore 5, 2) := by decide +kernel
theorem dX0_fold_22 : decode cX0_fold 22 = .ok (.iconst 3, 1) := by decide +kernel
theorem dX0_fold_23 : decode cX0_fold 23 = .ok (.istore 6, 2) := by decide +kernel
theorem dX0_fold_25 : decode cX0_fold 25 = .ok (.iload 6, 2) := by decide +kernel
theorem dX0_fold_27 : decode cX0_fold 27 = .ok (.ifCond .lt 41, 3) := by decide +kernel
theorem dX0_fold_30 : decode cX0_fold 30 = .ok (.aload_n 0, 1) := by decide +kernel
theorem dX0_fold_31 : decode cX0_fold 31 = .ok (.iload_n 1, 1) := by decide +kernel
theorem dX0_fold_32 : decode cX0_fold 32 = .ok (.iload 6, 2) := by decide +kernel
theorem dX0_fold_34 : decode cX0_fold 34 = .ok (.iload_n 3, 1) := by decide +kernel
theorem dX0_fold_35 : decode cX0_fold 35 = .ok (.invokevirtual 79, 3) := by decide +kernel
theorem dX0_fold_38 : decode cX0_fold 38 = .ok (.istore 7, 2) := by decide +kernel
theorem dX0_fold_40 : decode cX0_fold 40 = .ok (.iload 7, 2) := by decide +kernel
theorem dX0_fold_42 : decode cX0_fold 42 = .ok (.bipush (-6), 2) := by decide +kernel
theorem dX0_fold_44 : decode cX0_fold 44 = .ok (.if_icmp .eq 18, 3) := by decide +kernel
theorem dX0_fold_47 : decode cX0_fold 47 = .ok (.iload 7, 2) := by decide +kernel
theorem dX0_fold_49 : decode cX0_fold 49 = .ok (.iload 5, 2) := by decide +kernel
theorem dX0_fold_51 : decode cX0_fold 51 = .ok (.if_icmp .gt 11, 3) := by decide +kernel
theorem dX0_fold_54 : decode cX0_fold 54 = .ok (.iload 7, 2) := by decide +kernel
theorem dX0_fold_56 : decode cX0_fold 56 = .ok (.istore 5, 2) := by decide +kernel
theorem dX0_fold_58 : decode cX0_fold 58 = .ok (.iload 6, 2) := by decide +kernel
theorem dX0_fold_60 : decode cX0_fold 60 = .ok (.istore 4, 2) := by decide +kernel
theorem dX0_fold_62 : decode cX0_fold 62 = .ok (.iinc 6 (-1), 3) := by decide +kernel
theorem dX0_fold_65 : decode cX0_fold 65 = .ok (.goto (-40), 3) := by decide +kernel
theorem dX0_fold_68 : decode cX0_fold 68 = .ok (.aload_n 0, 1) := by decide +kernel
theorem dX0_fold_69 : decode cX0_fold 69 = .ok (.getfield 25, 3) := by decide +kernel
theorem dX0_fold_72 : decode cX0_fold 72 = .ok (.iload_n 1, 1) := by decide +kernel
theorem dX0_fold_73 : decode cX0_fold 73 = .ok (.iload 4, 2) := by decide +kernel
theorem dX0_fold_75 : decode cX0_fold 75 = .ok (.iastore, 1) := by decide +kernel
theorem dX0_fold_76 : decode cX0_fold 76 = .ok (.aload_n 0, 1) := by decide +kernel
theorem dX0_fold_77 : decode cX0_fold 77 = .ok (.getfield 28, 3) := by decide +kernel
theorem dX0_fold_80 : decode cX0_fold 80 = .ok (.iload_n 1, 1) := by decide +kernel
theorem dX0_fold_81 : decode cX0_fold 81 = .ok (.iload 4, 2) := by decide +kernel
theorem dX0_fold_83 : decode cX0_fold 83 = .ok (.iconst 1, 1) := by decide +kernel
theorem dX0_fold_84 : decode cX0_fold 84 = .ok (.if_icmp .ne 7, 3) := by decide +kernel
theorem dX0_fold_87 : decode cX0_fold 87 = .ok (.iload_n 3, 1) := by decide +kernel
theorem dX0_fold_88 : decode cX0_fold 88 = .ok (.goto 5, 3) := by decide +kernel
theorem dX0_fold_91 : decode cX0_fold 91 = .ok (.bipush (-6), 2) := by decide +kernel
theorem dX0_fold_93 : decode cX0_fold 93 = .ok (.iastore, 1) := by decide +kernel
theorem dX0_fold_94 : decode cX0_fold 94 = .ok (.aload_n 0, 1) := by decide +kernel
theorem dX0_fold_95 : decode cX0_fold 95 = .ok (.dup, 1) := by decide +kernel
theorem dX0_fold_96 : decode cX0_fold 96 = .ok (.getfield 95, 3) := by decide +kernel
theorem dX0_fold_99 : decode cX0_fold 99 = .ok (.iload 5, 2) := by decide +kernel
theorem dX0_fold_101 : decode cX0_fold 101 = .ok (.iadd, 1) := by decide +kernel
theorem dX0_fold_102 : decode cX0_fold 102 = .ok (.putfield 95, 3) := by decide +kernel
theorem dX0_fold_105 : decode cX0_fold 105 = .ok (.aload_n 0, 1) := by decide +kernel
theorem dX0_fold_106 : decode cX0_fold 106 = .ok (.dup, 1) := by decide +kernel
theorem dX0_fold_107 : decode cX0_fold 107 = .ok (.getfield 98, 3) := by decide +kernel
theorem dX0_fold_110 : decode cX0_fold 110 = .ok (.iconst 1, 1) := by decide +kernel
theorem dX0_fold_111 : decode cX0_fold 111 = .ok (.iadd, 1) := by decide +kernel
theorem dX0_fold_112 : decode cX0_fold 112 = .ok (.putfield 98, 3) := by decide +kernel
theorem dX0_fold_115 : decode cX0_fold 115 = .ok (.return_, 1) := by decide +kernel
theorem dX0_placeInRow_0 : decode cX0_placeInRow 0 = .ok (.iconst 0, 1) := by decide +kernel
theorem dX0_placeInRow_1 : decode cX0_placeInRow 1 = .ok (.istore_n 2, 1) := by decide +kernel
theorem dX0_placeInRow_2 : decode cX0_placeInRow 2 = .ok (.iload_n 2, 1) := by decide +kernel
theorem dX0_placeInRow_3 : decode cX0_placeInRow 3 = .ok (.aload_n 0, 1) := by decide +kernel
theorem dX0_placeInRow_4 : decode cX0_placeInRow 4 = .ok (.getfield 101, 3) := by decide +kernel
theorem dX0_placeInRow_7 : decode cX0_placeInRow 7 = .ok (.if_icmp .ge 30, 3) := by decide +kernel
theorem dX0_placeInRow_10 : decode cX0_placeInRow 10 = .ok (.iload_n 2, 1) := by decide +kernel
theorem dX0_placeInRow_11 : decode cX0_placeInRow 11 = .ok (.aload_n 0, 1) := by decide +kernel
theorem dX0_placeInRow_12 : decode cX0_placeInRow 12 = .ok (.getfield 22, 3) := by decide +kernel
theorem dX0_placeInRow_15 : decode cX0_placeInRow 15 = .ok (.arraylength, 1) := by decide +kernel
theorem dX0_placeInRow_16 : decode cX0_placeInRow 16 = .ok (.if_icmp .ge 21, 3) := by decide +kernel
theorem dX0_placeInRow_19 : decode cX0_placeInRow 19 = .ok (.aload_n 0, 1) := by decide +kernel
theorem dX0_placeInRow_20 : decode cX0_placeInRow 20 = .ok (.getfield 22, 3) := by decide +kernel
theorem dX0_placeInRow_23 : decode cX0_placeInRow 23 = .ok (.iload_n 2, 1) := by decide +kernel
theorem dX0_placeInRow_24 : decode cX0_placeInRow 24 = .ok (.iaload, 1) := by decide +kernel
theorem dX0_placeInRow_25 : decode cX0_placeInRow 25 = .ok (.iload_n 1, 1) := by decide +kernel
theorem dX0_placeInRow_26 : decode cX0_placeInRow 26 = .ok (.if_icmp .ne 5, 3) := by decide +kernel
theorem dX0_placeInRow_29 : decode cX0_placeInRow 29 = .ok (.iload_n 2, 1) := by decide +kernel
theorem dX0_placeInRow_30 : decode cX0_placeInRow 30 = .ok (.ireturn, 1) := by decide +kernel
theorem dX0_placeInRow_31 : decode cX0_placeInRow 31 = .ok (.iinc 2 1, 3) := by decide +kernel
theorem dX0_placeInRow_34 : decode cX0_placeInRow 34 = .ok (.goto (-32), 3) := by decide +kernel
theorem dX0_placeInRow_37 : decode cX0_placeInRow 37 = .ok (.bipush (-6), 2) := by decide +kernel
theorem dX0_placeInRow_39 : decode cX0_placeInRow 39 = .ok (.ireturn, 1) := by decide +kernel
theorem dX0_leaveRow_0 : decode cX0_leaveRow 0 = .ok (.iload_n 1, 1) := by decide +kernel
theorem dX0_leaveRow_1 : decode cX0_leaveRow 1 = .ok (.iconst 0, 1) := by decide +kernel
theorem dX0_leaveRow_2 : decode cX0_leaveRow 2 = .ok (.invokestatic 60, 3) := by decide +kernel
theorem dX0_leaveRow_5 : decode cX0_leaveRow 5 = .ok (.iconst 1, 1) := by decide +kernel
theorem dX0_leaveRow_6 : decode cX0_leaveRow 6 = .ok (.iadd, 1) := by decide +kernel
theorem dX0_leaveRow_7 : decode cX0_leaveRow 7 = .ok (.istore_n 2, 1) := by decide +kernel
theorem dX0_leaveRow_8 : decode cX0_leaveRow 8 = .ok (.iload_n 2, 1) := by decide +kernel
theorem dX0_leaveRow_9 : decode cX0_leaveRow 9 = .ok (.aload_n 0, 1) := by decide +kernel
theorem dX0_leaveRow_10 : decode cX0_leaveRow 10 = .ok (.getfield 101, 3) := by decide +kernel
theorem dX0_leaveRow_13 : decode cX0_leaveRow 13 = .ok (.if_icmp .ge 32, 3) := by decide +kernel
theorem dX0_leaveRow_16 : decode cX0_leaveRow 16 = .ok (.iload_n 2, 1) := by decide +kernel
theorem dX0_leaveRow_17 : decode cX0_leaveRow 17 = .ok (.aload_n 0, 1) := by decide +kernel
theorem dX0_leaveRow_18 : decode cX0_leaveRow 18 = .ok (.getfield 22, 3) := by decide +kernel
theorem dX0_leaveRow_21 : decode cX0_leaveRow 21 = .ok (.arraylength, 1) := by decide +kernel
theorem dX0_leaveRow_22 : decode cX0_leaveRow 22 = .ok (.if_icmp .ge 23, 3) := by decide +kernel
theorem dX0_leaveRow_25 : decode cX0_leaveRow 25 = .ok (.aload_n 0, 1) := by decide +kernel
theorem dX0_leaveRow_26 : decode cX0_leaveRow 26 = .ok (.getfield 22, 3) := by decide +kernel
theorem dX0_leaveRow_29 : decode cX0_leaveRow 29 = .ok (.iload_n 2, 1) := by decide +kernel
theorem dX0_leaveRow_30 : decode cX0_leaveRow 30 = .ok (.iconst 1, 1) := by decide +kernel
theorem dX0_leaveRow_31 : decode cX0_leaveRow 31 = .ok (.isub, 1) := by decide +kernel
theorem dX0_leaveRow_32 : decode cX0_leaveRow 32 = .ok (.aload_n 0, 1) := by decide +kernel
theorem dX0_leaveRow_33 : decode cX0_leaveRow 33 = .ok (.getfield 22, 3) := by decide +kernel
theorem dX0_leaveRow_36 : decode cX0_leaveRow 36 = .ok (.iload_n 2, 1) := by decide +kernel
theorem dX0_leaveRow_37 : decode cX0_leaveRow 37 = .ok (.iaload, 1) := by decide +kernel
theorem dX0_leaveRow_38 : decode cX0_leaveRow 38 = .ok (.iastore, 1) := by decide +kernel
theorem dX0_leaveRow_39 : decode cX0_leaveRow 39 = .ok (.iinc 2 1, 3) := by decide +kernel
theorem dX0_leaveRow_42 : decode cX0_leaveRow 42 = .ok (.goto (-34), 3) := by decide +kernel
theorem dX0_leaveRow_45 : decode cX0_leaveRow 45 = .ok (.aload_n 0, 1) := by decide +kernel
theorem dX0_leaveRow_46 : decode cX0_leaveRow 46 = .ok (.dup, 1) := by decide +kernel
theorem dX0_leaveRow_47 : decode cX0_leaveRow 47 = .ok (.getfield 101, 3) := by decide +kernel
theorem dX0_leaveRow_50 : decode cX0_leaveRow 50 = .ok (.iconst 1, 1) := by decide +kernel
theorem dX0_leaveRow_51 : decode cX0_leaveRow 51 = .ok (.isub, 1) := by decide +kernel
theorem dX0_leaveRow_52 : decode cX0_leaveRow 52 = .ok (.putfield 101, 3) := by decide +kernel
theorem dX0_leaveRow_55 : decode cX0_leaveRow 55 = .ok (.return_, 1) := by decide +kernel
theorem dX0_bringToTheEnd_0 : decode cX0_bringToTheEnd 0 = .ok (.aload_n 0, 1) := by decide +kernel
theorem dX0_bringToTheEnd_1 : decode cX0_bringToTheEnd 1 = .ok (.iload_n 1, 1) := by decide +kernel
theorem dX0_bringToTheEnd_2 : decode cX0_bringToTheEnd 2 = .ok (.invokevirtual 104, 3) := by decide +kernel
theorem dX0_bringToTheEnd_5 : decode cX0_bringToTheEnd 5 = .ok (.istore_n 2, 1) := by decide +kernel
theorem dX0_bringToTheEnd_6 : decode cX0_bringToTheEnd 6 = .ok (.iload_n 2, 1) := by decide +kernel
theorem dX0_bringToTheEnd_7 : decode cX0_bringToTheEnd 7 = .ok (.bipush (-6), 2) := by decide +kernel
theorem dX0_bringToTheEnd_9 : decode cX0_bringToTheEnd 9 = .ok (.if_icmp .eq 11, 3) := by decide +kernel
theorem dX0_bringToTheEnd_12 : decode cX0_bringToTheEnd 12 = .ok (.aload_n 0, 1) := by decide +kernel
theorem dX0_bringToTheEnd_13 : decode cX0_bringToTheEnd 13 = .ok (.iload_n 2, 1) := by decide +kernel
theorem dX0_bringToTheEnd_14 : decode cX0_bringToTheEnd 14 = .ok (.invokevirtual 107, 3) := by decide +kernel
theorem dX0_bringToTheEnd_17 : decode cX0_bringToTheEnd 17 = .ok (.goto 49, 3) := by decide +kernel
theorem dX0_bringToTheEnd_20 : decode cX0_bringToTheEnd 20 = .ok (.iload_n 1, 1) := by decide +kernel
theorem dX0_bringToTheEnd_21 : decode cX0_bringToTheEnd 21 = .ok (.invokestatic 69, 3) := by decide +kernel
theorem dX0_bringToTheEnd_24 : decode cX0_bringToTheEnd 24 = .ok (.ifCond .eq 42, 3) := by decide +kernel
theorem dX0_bringToTheEnd_27 : decode cX0_bringToTheEnd 27 = .ok (.aload_n 0, 1) := by decide +kernel
theorem dX0_bringToTheEnd_28 : decode cX0_bringToTheEnd 28 = .ok (.dup, 1) := by decide +kernel
theorem dX0_bringToTheEnd_29 : decode cX0_bringToTheEnd 29 = .ok (.getfield 95, 3) := by decide +kernel
theorem dX0_bringToTheEnd_32 : decode cX0_bringToTheEnd 32 = .ok (.aload_n 0, 1) := by decide +kernel
theorem dX0_bringToTheEnd_33 : decode cX0_bringToTheEnd 33 = .ok (.iload_n 1, 1) := by decide +kernel
theorem dX0_bringToTheEnd_34 : decode cX0_bringToTheEnd 34 = .ok (.invokevirtual 83, 3) := by decide +kernel
theorem dX0_bringToTheEnd_37 : decode cX0_bringToTheEnd 37 = .ok (.iadd, 1) := by decide +kernel
theorem dX0_bringToTheEnd_38 : decode cX0_bringToTheEnd 38 = .ok (.putfield 95, 3) := by decide +kernel
theorem dX0_bringToTheEnd_41 : decode cX0_bringToTheEnd 41 = .ok (.aload_n 0, 1) := by decide +kernel
theorem dX0_bringToTheEnd_42 : decode cX0_bringToTheEnd 42 = .ok (.dup, 1) := by decide +kernel
theorem dX0_bringToTheEnd_43 : decode cX0_bringToTheEnd 43 = .ok (.getfield 111, 3) := by decide +kernel
theorem dX0_bringToTheEnd_46 : decode cX0_bringToTheEnd 46 = .ok (.iconst 1, 1) := by decide +kernel
theorem dX0_bringToTheEnd_47 : decode cX0_bringToTheEnd 47 = .ok (.iadd, 1) := by decide +kernel
theorem dX0_bringToTheEnd_48 : decode cX0_bringToTheEnd 48 = .ok (.putfield 111, 3) := by decide +kernel
theorem dX0_bringToTheEnd_51 : decode cX0_bringToTheEnd 51 = .ok (.aload_n 0, 1) := by decide +kernel
theorem dX0_bringToTheEnd_52 : decode cX0_bringToTheEnd 52 = .ok (.getfield 25, 3) := by decide +kernel
theorem dX0_bringToTheEnd_55 : decode cX0_bringToTheEnd 55 = .ok (.iload_n 1, 1) := by decide +kernel
theorem dX0_bringToTheEnd_56 : decode cX0_bringToTheEnd 56 = .ok (.iconst 5, 1) := by decide +kernel
theorem dX0_bringToTheEnd_57 : decode cX0_bringToTheEnd 57 = .ok (.iastore, 1) := by decide +kernel
theorem dX0_bringToTheEnd_58 : decode cX0_bringToTheEnd 58 = .ok (.aload_n 0, 1) := by decide +kernel
theorem dX0_bringToTheEnd_59 : decode cX0_bringToTheEnd 59 = .ok (.getfield 28, 3) := by decide +kernel
theorem dX0_bringToTheEnd_62 : decode cX0_bringToTheEnd 62 = .ok (.iload_n 1, 1) := by decide +kernel
theorem dX0_bringToTheEnd_63 : decode cX0_bringToTheEnd 63 = .ok (.bipush (-6), 2) := by decide +kernel
theorem dX0_bringToTheEnd_65 : decode cX0_bringToTheEnd 65 = .ok (.iastore, 1) := by decide +kernel
theorem dX0_bringToTheEnd_66 : decode cX0_bringToTheEnd 66 = .ok (.aload_n 0, 1) := by decide +kernel
theorem dX0_bringToTheEnd_67 : decode cX0_bringToTheEnd 67 = .ok (.getfield 101, 3) := by decide +kernel
theorem dX0_bringToTheEnd_70 : decode cX0_bringToTheEnd 70 = .ok (.ifCond .lt 35, 3) := by decide +kernel
theorem dX0_bringToTheEnd_73 : decode cX0_bringToTheEnd 73 = .ok (.aload_n 0, 1) := by decide +kernel
theorem dX0_bringToTheEnd_74 : decode cX0_bringToTheEnd 74 = .ok (.getfield 101, 3) := by decide +kernel
theorem dX0_bringToTheEnd_77 : decode cX0_bringToTheEnd 77 = .ok (.aload_n 0, 1) := by decide +kernel
theorem dX0_bringToTheEnd_78 : decode cX0_bringToTheEnd 78 = .ok (.getfield 22, 3) := by decide +kernel
theorem dX0_bringToTheEnd_81 : decode cX0_bringToTheEnd 81 = .ok (.arraylength, 1) := by decide +kernel
theorem dX0_bringToTheEnd_82 : decode cX0_bringToTheEnd 82 = .ok (.if_icmp .ge 23, 3) := by decide +kernel
theorem dX0_bringToTheEnd_85 : decode cX0_bringToTheEnd 85 = .ok (.aload_n 0, 1) := by decide +kernel
theorem dX0_bringToTheEnd_86 : decode cX0_bringToTheEnd 86 = .ok (.getfield 22, 3) := by decide +kernel
theorem dX0_bringToTheEnd_89 : decode cX0_bringToTheEnd 89 = .ok (.aload_n 0, 1) := by decide +kernel
theorem dX0_bringToTheEnd_90 : decode cX0_bringToTheEnd 90 = .ok (.getfield 101, 3) := by decide +kernel
theorem dX0_bringToTheEnd_93 : decode cX0_bringToTheEnd 93 = .ok (.iload_n 1, 1) := by decide +kernel
theorem dX0_bringToTheEnd_94 : decode cX0_bringToTheEnd 94 = .ok (.iastore, 1) := by decide +kernel
theorem dX0_bringToTheEnd_95 : decode cX0_bringToTheEnd 95 = .ok (.aload_n 0, 1) := by decide +kernel
theorem dX0_bringToTheEnd_96 : decode cX0_bringToTheEnd 96 = .ok (.dup, 1) := by decide +kernel
theorem dX0_bringToTheEnd_97 : decode cX0_bringToTheEnd 97 = .ok (.getfield 101, 3) := by decide +kernel
theorem dX0_bringToTheEnd_100 : decode cX0_bringToTheEnd 100 = .ok (.iconst 1, 1) := by decide +kernel
theorem dX0_bringToTheEnd_101 : decode cX0_bringToTheEnd 101 = .ok (.iadd, 1) := by decide +kernel
theorem dX0_bringToTheEnd_102 : decode cX0_bringToTheEnd 102 = .ok (.putfield 101, 3) := by decide +kernel
theorem dX0_bringToTheEnd_105 : decode cX0_bringToTheEnd 105 = .ok (.return_, 1) := by decide +kernel
theorem dX0_foldSurplus_0 : decode cX0_foldSurplus 0 = .ok (.aload_n 0, 1) := by decide +kernel
theorem dX0_foldSurplus_1 : decode cX0_foldSurplus 1 = .ok (.getfield 101, 3) := by decide +kernel
theorem dX0_foldSurplus_4 : decode cX0_foldSurplus 4 = .ok (.aload_n 0, 1) := by decide +kernel
theorem dX0_foldSurplus_5 : decode cX0_foldSurplus 5 = .ok (.getfield 15, 3) := by decide +kernel
theorem dX0_foldSurplus_8 : decode cX0_foldSurplus 8 = .ok (.isub, 1) := by decide +kernel
theorem dX0_foldSurplus_9 : decode cX0_foldSurplus 9 = .ok (.istore_n 1, 1) := by decide +kernel
theorem dX0_foldSurplus_10 : decode cX0_foldSurplus 10 = .ok (.iconst 0, 1) := by decide +kernel
theorem dX0_foldSurplus_11 : decode cX0_foldSurplus 11 = .ok (.istore_n 2, 1) := by decide +kernel
theorem dX0_foldSurplus_12 : decode cX0_foldSurplus 12 = .ok (.iload_n 2, 1) := by decide +kernel
theorem dX0_foldSurplus_13 : decode cX0_foldSurplus 13 = .ok (.iload_n 1, 1) := by decide +kernel
theorem dX0_foldSurplus_14 : decode cX0_foldSurplus 14 = .ok (.if_icmp .ge 34, 3) := by decide +kernel
theorem dX0_foldSurplus_17 : decode cX0_foldSurplus 17 = .ok (.aload_n 0, 1) := by decide +kernel
theorem dX0_foldSurplus_18 : decode cX0_foldSurplus 18 = .ok (.getfield 22, 3) := by decide +kernel
theorem dX0_foldSurplus_21 : decode cX0_foldSurplus 21 = .ok (.arraylength, 1) := by decide +kernel
theorem dX0_foldSurplus_22 : decode cX0_foldSurplus 22 = .ok (.ifCond .le 26, 3) := by decide +kernel
theorem dX0_foldSurplus_25 : decode cX0_foldSurplus 25 = .ok (.aload_n 0, 1) := by decide +kernel
theorem dX0_foldSurplus_26 : decode cX0_foldSurplus 26 = .ok (.aload_n 0, 1) := by decide +kernel
theorem dX0_foldSurplus_27 : decode cX0_foldSurplus 27 = .ok (.getfield 22, 3) := by decide +kernel
theorem dX0_foldSurplus_30 : decode cX0_foldSurplus 30 = .ok (.iconst 0, 1) := by decide +kernel
theorem dX0_foldSurplus_31 : decode cX0_foldSurplus 31 = .ok (.iaload, 1) := by decide +kernel
theorem dX0_foldSurplus_32 : decode cX0_foldSurplus 32 = .ok (.bipush (-6), 2) := by decide +kernel
theorem dX0_foldSurplus_34 : decode cX0_foldSurplus 34 = .ok (.invokevirtual 114, 3) := by decide +kernel
theorem dX0_foldSurplus_37 : decode cX0_foldSurplus 37 = .ok (.aload_n 0, 1) := by decide +kernel
theorem dX0_foldSurplus_38 : decode cX0_foldSurplus 38 = .ok (.iconst 0, 1) := by decide +kernel
theorem dX0_foldSurplus_39 : decode cX0_foldSurplus 39 = .ok (.invokevirtual 107, 3) := by decide +kernel
theorem dX0_foldSurplus_42 : decode cX0_foldSurplus 42 = .ok (.iinc 2 1, 3) := by decide +kernel
theorem dX0_foldSurplus_45 : decode cX0_foldSurplus 45 = .ok (.goto (-33), 3) := by decide +kernel
theorem dX0_foldSurplus_48 : decode cX0_foldSurplus 48 = .ok (.return_, 1) := by decide +kernel
theorem dX0_lookAt_0 : decode cX0_lookAt 0 = .ok (.aload_n 0, 1) := by decide +kernel
theorem dX0_lookAt_1 : decode cX0_lookAt 1 = .ok (.iload_n 1, 1) := by decide +kernel
theorem dX0_lookAt_2 : decode cX0_lookAt 2 = .ok (.invokevirtual 118, 3) := by decide +kernel
theorem dX0_lookAt_5 : decode cX0_lookAt 5 = .ok (.ifCond .eq 20, 3) := by decide +kernel
theorem dX0_lookAt_8 : decode cX0_lookAt 8 = .ok (.aload_n 0, 1) := by decide +kernel
theorem dX0_lookAt_9 : decode cX0_lookAt 9 = .ok (.iload_n 1, 1) := by decide +kernel
theorem dX0_lookAt_10 : decode cX0_lookAt 10 = .ok (.invokevirtual 73, 3) := by decide +kernel
theorem dX0_lookAt_13 : decode cX0_lookAt 13 = .ok (.ifCond .eq 12, 3) := by decide +kernel
theorem dX0_lookAt_16 : decode cX0_lookAt 16 = .ok (.aload_n 0, 1) := by decide +kernel
theorem dX0_lookAt_17 : decode cX0_lookAt 17 = .ok (.iload_n 1, 1) := by decide +kernel
theorem dX0_lookAt_18 : decode cX0_lookAt 18 = .ok (.invokevirtual 121, 3) := by decide +kernel
theorem dX0_lookAt_21 : decode cX0_lookAt 21 = .ok (.aload_n 0, 1) := by decide +kernel
theorem dX0_lookAt_22 : decode cX0_lookAt 22 = .ok (.invokevirtual 124, 3) := by decide +kernel
theorem dX0_lookAt_25 : decode cX0_lookAt 25 = .ok (.return_, 1) := by decide +kernel
theorem dX0_lookAtMonths_0 : decode cX0_lookAtMonths 0 = .ok (.iload_n 2, 1) := by decide +kernel
theorem dX0_lookAtMonths_1 : decode cX0_lookAtMonths 1 = .ok (.invokestatic 31, 3) := by decide +kernel
theorem dX0_lookAtMonths_4 : decode cX0_lookAtMonths 4 = .ok (.istore_n 3, 1) := by decide +kernel
theorem dX0_lookAtMonths_5 : decode cX0_lookAtMonths 5 = .ok (.iload_n 1, 1) := by decide +kernel
theorem dX0_lookAtMonths_6 : decode cX0_lookAtMonths 6 = .ok (.invokestatic 31, 3) := by decide +kernel
theorem dX0_lookAtMonths_9 : decode cX0_lookAtMonths 9 = .ok (.istore 4, 2) := by decide +kernel
theorem dX0_lookAtMonths_11 : decode cX0_lookAtMonths 11 = .ok (.iload 4, 2) := by decide +kernel
theorem dX0_lookAtMonths_13 : decode cX0_lookAtMonths 13 = .ok (.iload_n 3, 1) := by decide +kernel
theorem dX0_lookAtMonths_14 : decode cX0_lookAtMonths 14 = .ok (.if_icmp .gt 15, 3) := by decide +kernel
theorem dX0_lookAtMonths_17 : decode cX0_lookAtMonths 17 = .ok (.aload_n 0, 1) := by decide +kernel
theorem dX0_lookAtMonths_18 : decode cX0_lookAtMonths 18 = .ok (.iload 4, 2) := by decide +kernel
theorem dX0_lookAtMonths_20 : decode cX0_lookAtMonths 20 = .ok (.invokevirtual 127, 3) := by decide +kernel
theorem dX0_lookAtMonths_23 : decode cX0_lookAtMonths 23 = .ok (.iinc 4 1, 3) := by decide +kernel
theorem dX0_lookAtMonths_26 : decode cX0_lookAtMonths 26 = .ok (.goto (-15), 3) := by decide +kernel
theorem dX0_lookAtMonths_29 : decode cX0_lookAtMonths 29 = .ok (.return_, 1) := by decide +kernel
theorem dX0_lookAtMarkedMonths_0 : decode cX0_lookAtMarkedMonths 0 = .ok (.iload_n 3, 1) := by decide +kernel
theorem dX0_lookAtMarkedMonths_1 : decode cX0_lookAtMarkedMonths 1 = .ok (.invokestatic 31, 3) := by decide +kernel
theorem dX0_lookAtMarkedMonths_4 : decode cX0_lookAtMarkedMonths 4 = .ok (.istore 4, 2) := by decide +kernel
theorem dX0_lookAtMarkedMonths_6 : decode cX0_lookAtMarkedMonths 6 = .ok (.iload_n 2, 1) := by decide +kernel
theorem dX0_lookAtMarkedMonths_7 : decode cX0_lookAtMarkedMonths 7 = .ok (.invokestatic 31, 3) := by decide +kernel
theorem dX0_lookAtMarkedMonths_10 : decode cX0_lookAtMarkedMonths 10 = .ok (.istore 5, 2) := by decide +kernel
theorem dX0_lookAtMarkedMonths_12 : decode cX0_lookAtMarkedMonths 12 = .ok (.iload 5, 2) := by decide +kernel
theorem dX0_lookAtMarkedMonths_14 : decode cX0_lookAtMarkedMonths 14 = .ok (.iload 4, 2) := by decide +kernel
theorem dX0_lookAtMarkedMonths_16 : decode cX0_lookAtMarkedMonths 16 = .ok (.if_icmp .gt 25, 3) := by decide +kernel
theorem dX0_lookAtMarkedMonths_19 : decode cX0_lookAtMarkedMonths 19 = .ok (.aload_n 0, 1) := by decide +kernel
theorem dX0_lookAtMarkedMonths_20 : decode cX0_lookAtMarkedMonths 20 = .ok (.iload_n 1, 1) := by decide +kernel
theorem dX0_lookAtMarkedMonths_21 : decode cX0_lookAtMarkedMonths 21 = .ok (.iload 5, 2) := by decide +kernel
theorem dX0_lookAtMarkedMonths_23 : decode cX0_lookAtMarkedMonths 23 = .ok (.invokevirtual 35, 3) := by decide +kernel
theorem dX0_lookAtMarkedMonths_26 : decode cX0_lookAtMarkedMonths 26 = .ok (.ifCond .eq 9, 3) := by decide +kernel
theorem dX0_lookAtMarkedMonths_29 : decode cX0_lookAtMarkedMonths 29 = .ok (.aload_n 0, 1) := by decide +kernel
theorem dX0_lookAtMarkedMonths_30 : decode cX0_lookAtMarkedMonths 30 = .ok (.iload 5, 2) := by decide +kernel
theorem dX0_lookAtMarkedMonths_32 : decode cX0_lookAtMarkedMonths 32 = .ok (.invokevirtual 127, 3) := by decide +kernel
theorem dX0_lookAtMarkedMonths_35 : decode cX0_lookAtMarkedMonths 35 = .ok (.iinc 5 1, 3) := by decide +kernel
theorem dX0_lookAtMarkedMonths_38 : decode cX0_lookAtMarkedMonths 38 = .ok (.goto (-26), 3) := by decide +kernel
theorem dX0_lookAtMarkedMonths_41 : decode cX0_lookAtMarkedMonths 41 = .ok (.return_, 1) := by decide +kernel
theorem dX0_advance_0 : decode cX0_advance 0 = .ok (.aload_n 0, 1) := by decide +kernel
theorem dX0_advance_1 : decode cX0_advance 1 = .ok (.invokevirtual 65, 3) := by decide +kernel
theorem dX0_advance_4 : decode cX0_advance 4 = .ok (.istore_n 2, 1) := by decide +kernel
theorem dX0_advance_5 : decode cX0_advance 5 = .ok (.aload_n 0, 1) := by decide +kernel
theorem dX0_advance_6 : decode cX0_advance 6 = .ok (.dup, 1) := by decide +kernel
theorem dX0_advance_7 : decode cX0_advance 7 = .ok (.getfield 57, 3) := by decide +kernel
theorem dX0_advance_10 : decode cX0_advance 10 = .ok (.iload_n 1, 1) := by decide +kernel
theorem dX0_advance_11 : decode cX0_advance 11 = .ok (.iadd, 1) := by decide +kernel
theorem dX0_advance_12 : decode cX0_advance 12 = .ok (.putfield 57, 3) := by decide +kernel
theorem dX0_advance_15 : decode cX0_advance 15 = .ok (.aload_n 0, 1) := by decide +kernel
theorem dX0_advance_16 : decode cX0_advance 16 = .ok (.invokevirtual 65, 3) := by decide +kernel
theorem dX0_advance_19 : decode cX0_advance 19 = .ok (.istore_n 3, 1) := by decide +kernel
theorem dX0_advance_20 : decode cX0_advance 20 = .ok (.iload_n 2, 1) := by decide +kernel
theorem dX0_advance_21 : decode cX0_advance 21 = .ok (.istore 4, 2) := by decide +kernel
theorem dX0_advance_23 : decode cX0_advance 23 = .ok (.iload 4, 2) := by decide +kernel
theorem dX0_advance_25 : decode cX0_advance 25 = .ok (.iload_n 3, 1) := by decide +kernel
theorem dX0_advance_26 : decode cX0_advance 26 = .ok (.if_icmp .ge 17, 3) := by decide +kernel
theorem dX0_advance_29 : decode cX0_advance 29 = .ok (.aload_n 0, 1) := by decide +kernel
theorem dX0_advance_30 : decode cX0_advance 30 = .ok (.iload 4, 2) := by decide +kernel
theorem dX0_advance_32 : decode cX0_advance 32 = .ok (.bipush (-6), 2) := by decide +kernel
theorem dX0_advance_34 : decode cX0_advance 34 = .ok (.invokevirtual 114, 3) := by decide +kernel
theorem dX0_advance_37 : decode cX0_advance 37 = .ok (.iinc 4 1, 3) := by decide +kernel
theorem dX0_advance_40 : decode cX0_advance 40 = .ok (.goto (-17), 3) := by decide +kernel
theorem dX0_advance_43 : decode cX0_advance 43 = .ok (.aload_n 0, 1) := by decide +kernel
theorem dX0_advance_44 : decode cX0_advance 44 = .ok (.getfield 57, 3) := by decide +kernel
theorem dX0_advance_47 : decode cX0_advance 47 = .ok (.ireturn, 1) := by decide +kernel
theorem dX0_writeDays_0 : decode cX0_writeDays 0 = .ok (.iconst 0, 1) := by decide +kernel
theorem dX0_writeDays_1 : decode cX0_writeDays 1 = .ok (.istore 5, 2) := by decide +kernel
theorem dX0_writeDays_3 : decode cX0_writeDays 3 = .ok (.iload_n 3, 1) := by decide +kernel
theorem dX0_writeDays_4 : decode cX0_writeDays 4 = .ok (.invokestatic 31, 3) := by decide +kernel
theorem dX0_writeDays_7 : decode cX0_writeDays 7 = .ok (.istore 6, 2) := by decide +kernel
theorem dX0_writeDays_9 : decode cX0_writeDays 9 = .ok (.iload_n 2, 1) := by decide +kernel
theorem dX0_writeDays_10 : decode cX0_writeDays 10 = .ok (.invokestatic 31, 3) := by decide +kernel
theorem dX0_writeDays_13 : decode cX0_writeDays 13 = .ok (.istore 7, 2) := by decide +kernel
theorem dX0_writeDays_15 : decode cX0_writeDays 15 = .ok (.iload 7, 2) := by decide +kernel
theorem dX0_writeDays_17 : decode cX0_writeDays 17 = .ok (.iload 6, 2) := by decide +kernel
theorem dX0_writeDays_19 : decode cX0_writeDays 19 = .ok (.if_icmp .gt 94, 3) := by decide +kernel
theorem dX0_writeDays_22 : decode cX0_writeDays 22 = .ok (.aload_n 0, 1) := by decide +kernel
theorem dX0_writeDays_23 : decode cX0_writeDays 23 = .ok (.iload_n 1, 1) := by decide +kernel
theorem dX0_writeDays_24 : decode cX0_writeDays 24 = .ok (.iload 7, 2) := by decide +kernel
theorem dX0_writeDays_26 : decode cX0_writeDays 26 = .ok (.invokevirtual 35, 3) := by decide +kernel
theorem dX0_writeDays_29 : decode cX0_writeDays 29 = .ok (.istore 8, 2) := by decide +kernel
theorem dX0_writeDays_31 : decode cX0_writeDays 31 = .ok (.iload 7, 2) := by decide +kernel
theorem dX0_writeDays_33 : decode cX0_writeDays 33 = .ok (.iload_n 2, 1) := by decide +kernel
theorem dX0_writeDays_34 : decode cX0_writeDays 34 = .ok (.iload_n 3, 1) := by decide +kernel
theorem dX0_writeDays_35 : decode cX0_writeDays 35 = .ok (.invokestatic 130, 3) := by decide +kernel
theorem dX0_writeDays_38 : decode cX0_writeDays 38 = .ok (.iload 4, 2) := by decide +kernel
theorem dX0_writeDays_40 : decode cX0_writeDays 40 = .ok (.ifCond .eq 10, 3) := by decide +kernel
theorem dX0_writeDays_43 : decode cX0_writeDays 43 = .ok (.iload 8, 2) := by decide +kernel
theorem dX0_writeDays_45 : decode cX0_writeDays 45 = .ok (.iconst (-1), 1) := by decide +kernel
theorem dX0_writeDays_46 : decode cX0_writeDays 46 = .ok (.ixor, 1) := by decide +kernel
theorem dX0_writeDays_47 : decode cX0_writeDays 47 = .ok (.goto 5, 3) := by decide +kernel
theorem dX0_writeDays_50 : decode cX0_writeDays 50 = .ok (.iload 8, 2) := by decide +kernel
theorem dX0_writeDays_52 : decode cX0_writeDays 52 = .ok (.iand, 1) := by decide +kernel
theorem dX0_writeDays_53 : decode cX0_writeDays 53 = .ok (.istore 9, 2) := by decide +kernel
theorem dX0_writeDays_55 : decode cX0_writeDays 55 = .ok (.iload 9, 2) := by decide +kernel
theorem dX0_writeDays_57 : decode cX0_writeDays 57 = .ok (.ifCond .eq 50, 3) := by decide +kernel
theorem dX0_writeDays_60 : decode cX0_writeDays 60 = .ok (.aload_n 0, 1) := by decide +kernel
theorem dX0_writeDays_61 : decode cX0_writeDays 61 = .ok (.iload 7, 2) := by decide +kernel
theorem dX0_writeDays_63 : decode cX0_writeDays 63 = .ok (.invokevirtual 118, 3) := by decide +kernel
theorem dX0_writeDays_66 : decode cX0_writeDays 66 = .ok (.ifCond .eq 15, 3) := by decide +kernel
theorem dX0_writeDays_69 : decode cX0_writeDays 69 = .ok (.aload_n 0, 1) := by decide +kernel
theorem dX0_writeDays_70 : decode cX0_writeDays 70 = .ok (.iload 7, 2) := by decide +kernel
theorem dX0_writeDays_72 : decode cX0_writeDays 72 = .ok (.invokevirtual 133, 3) := by decide +kernel
theorem dX0_writeDays_75 : decode cX0_writeDays 75 = .ok (.aload_n 0, 1) := by decide +kernel
theorem dX0_writeDays_76 : decode cX0_writeDays 76 = .ok (.iload 7, 2) := by decide +kernel
theorem dX0_writeDays_78 : decode cX0_writeDays 78 = .ok (.invokevirtual 121, 3) := by decide +kernel
theorem dX0_writeDays_81 : decode cX0_writeDays 81 = .ok (.aload_n 0, 1) := by decide +kernel
theorem dX0_writeDays_82 : decode cX0_writeDays 82 = .ok (.iload_n 1, 1) := by decide +kernel
theorem dX0_writeDays_83 : decode cX0_writeDays 83 = .ok (.iload 7, 2) := by decide +kernel
theorem dX0_writeDays_85 : decode cX0_writeDays 85 = .ok (.iload 8, 2) := by decide +kernel
theorem dX0_writeDays_87 : decode cX0_writeDays 87 = .ok (.iload 9, 2) := by decide +kernel
theorem dX0_writeDays_89 : decode cX0_writeDays 89 = .ok (.ixor, 1) := by decide +kernel
theorem dX0_writeDays_90 : decode cX0_writeDays 90 = .ok (.invokevirtual 136, 3) := by decide +kernel
theorem dX0_writeDays_93 : decode cX0_writeDays 93 = .ok (.aload_n 0, 1) := by decide +kernel
theorem dX0_writeDays_94 : decode cX0_writeDays 94 = .ok (.invokevirtual 124, 3) := by decide +kernel
theorem dX0_writeDays_97 : decode cX0_writeDays 97 = .ok (.iload 5, 2) := by decide +kernel
theorem dX0_writeDays_99 : decode cX0_writeDays 99 = .ok (.iload 9, 2) := by decide +kernel
theorem dX0_writeDays_101 : decode cX0_writeDays 101 = .ok (.invokestatic 46, 3) := by decide +kernel
theorem dX0_writeDays_104 : decode cX0_writeDays 104 = .ok (.iadd, 1) := by decide +kernel
theorem dX0_writeDays_105 : decode cX0_writeDays 105 = .ok (.istore 5, 2) := by decide +kernel
theorem dX0_writeDays_107 : decode cX0_writeDays 107 = .ok (.iinc 7 1, 3) := by decide +kernel
theorem dX0_writeDays_110 : decode cX0_writeDays 110 = .ok (.goto (-95), 3) := by decide +kernel
theorem dX0_writeDays_113 : decode cX0_writeDays 113 = .ok (.iload 5, 2) := by decide +kernel
theorem dX0_writeDays_115 : decode cX0_writeDays 115 = .ok (.ireturn, 1) := by decide +kernel
theorem dX0_foldNamersOf_0 : decode cX0_foldNamersOf 0 = .ok (.iconst 0, 1) := by decide +kernel
theorem dX0_foldNamersOf_1 : decode cX0_foldNamersOf 1 = .ok (.istore_n 2, 1) := by decide +kernel
theorem dX0_foldNamersOf_2 : decode cX0_foldNamersOf 2 = .ok (.iload_n 2, 1) := by decide +kernel
theorem dX0_foldNamersOf_3 : decode cX0_foldNamersOf 3 = .ok (.bipush 120, 2) := by decide +kernel
theorem dX0_foldNamersOf_5 : decode cX0_foldNamersOf 5 = .ok (.if_icmp .ge 24, 3) := by decide +kernel
theorem dX0_foldNamersOf_8 : decode cX0_foldNamersOf 8 = .ok (.aload_n 0, 1) := by decide +kernel
theorem dX0_foldNamersOf_9 : decode cX0_foldNamersOf 9 = .ok (.iload_n 2, 1) := by decide +kernel
theorem dX0_foldNamersOf_10 : decode cX0_foldNamersOf 10 = .ok (.invokevirtual 76, 3) := by decide +kernel
theorem dX0_foldNamersOf_13 : decode cX0_foldNamersOf 13 = .ok (.iload_n 1, 1) := by decide +kernel
theorem dX0_foldNamersOf_14 : decode cX0_foldNamersOf 14 = .ok (.if_icmp .ne 9, 3) := by decide +kernel
theorem dX0_foldNamersOf_17 : decode cX0_foldNamersOf 17 = .ok (.aload_n 0, 1) := by decide +kernel
theorem dX0_foldNamersOf_18 : decode cX0_foldNamersOf 18 = .ok (.iload_n 2, 1) := by decide +kernel
theorem dX0_foldNamersOf_19 : decode cX0_foldNamersOf 19 = .ok (.iload_n 1, 1) := by decide +kernel
theorem dX0_foldNamersOf_20 : decode cX0_foldNamersOf 20 = .ok (.invokevirtual 114, 3) := by decide +kernel
theorem dX0_foldNamersOf_23 : decode cX0_foldNamersOf 23 = .ok (.iinc 2 1, 3) := by decide +kernel
theorem dX0_foldNamersOf_26 : decode cX0_foldNamersOf 26 = .ok (.goto (-24), 3) := by decide +kernel
theorem dX0_foldNamersOf_29 : decode cX0_foldNamersOf 29 = .ok (.return_, 1) := by decide +kernel
theorem dX1_init_0 : decode cX1_init 0 = .ok (.aload_n 0, 1) := by decide +kernel
theorem dX1_init_1 : decode cX1_init 1 = .ok (.invokespecial 3, 3) := by decide +kernel
theorem dX1_init_4 : decode cX1_init 4 = .ok (.aload_n 0, 1) := by decide +kernel
theorem dX1_init_5 : decode cX1_init 5 = .ok (.bipush 80, 2) := by decide +kernel
theorem dX1_init_7 : decode cX1_init 7 = .ok (.newarray .char, 2) := by decide +kernel
theorem dX1_init_9 : decode cX1_init 9 = .ok (.putfield 9, 3) := by decide +kernel
theorem dX1_init_12 : decode cX1_init 12 = .ok (.aload_n 0, 1) := by decide +kernel
theorem dX1_init_13 : decode cX1_init 13 = .ok (.bipush 40, 2) := by decide +kernel
theorem dX1_init_15 : decode cX1_init 15 = .ok (.anewarray 15, 3) := by decide +kernel
theorem dX1_init_18 : decode cX1_init 18 = .ok (.putfield 17, 3) := by decide +kernel
theorem dX1_init_21 : decode cX1_init 21 = .ok (.iconst 0, 1) := by decide +kernel
theorem dX1_init_22 : decode cX1_init 22 = .ok (.istore_n 1, 1) := by decide +kernel
theorem dX1_init_23 : decode cX1_init 23 = .ok (.iload_n 1, 1) := by decide +kernel
theorem dX1_init_24 : decode cX1_init 24 = .ok (.aload_n 0, 1) := by decide +kernel
theorem dX1_init_25 : decode cX1_init 25 = .ok (.getfield 17, 3) := by decide +kernel
theorem dX1_init_28 : decode cX1_init 28 = .ok (.arraylength, 1) := by decide +kernel
theorem dX1_init_29 : decode cX1_init 29 = .ok (.if_icmp .ge 22, 3) := by decide +kernel
theorem dX1_init_32 : decode cX1_init 32 = .ok (.aload_n 0, 1) := by decide +kernel
theorem dX1_init_33 : decode cX1_init 33 = .ok (.getfield 17, 3) := by decide +kernel
theorem dX1_init_36 : decode cX1_init 36 = .ok (.iload_n 1, 1) := by decide +kernel
theorem dX1_init_37 : decode cX1_init 37 = .ok (.new 15, 3) := by decide +kernel
theorem dX1_init_40 : decode cX1_init 40 = .ok (.dup, 1) := by decide +kernel
theorem dX1_init_41 : decode cX1_init 41 = .ok (.invokespecial 21, 3) := by decide +kernel
theorem dX1_init_44 : decode cX1_init 44 = .ok (.aastore, 1) := by decide +kernel
theorem dX1_init_45 : decode cX1_init 45 = .ok (.iinc 1 1, 3) := by decide +kernel
theorem dX1_init_48 : decode cX1_init 48 = .ok (.goto (-25), 3) := by decide +kernel
theorem dX1_init_51 : decode cX1_init 51 = .ok (.return_, 1) := by decide +kernel
theorem dX1_append_0 : decode cX1_append 0 = .ok (.iload_n 3, 1) := by decide +kernel
theorem dX1_append_1 : decode cX1_append 1 = .ok (.iconst 1, 1) := by decide +kernel
theorem dX1_append_2 : decode cX1_append 2 = .ok (.isub, 1) := by decide +kernel
theorem dX1_append_3 : decode cX1_append 3 = .ok (.istore 4, 2) := by decide +kernel
theorem dX1_append_5 : decode cX1_append 5 = .ok (.iload 4, 2) := by decide +kernel
theorem dX1_append_7 : decode cX1_append 7 = .ok (.ifCond .lt 60, 3) := by decide +kernel
theorem dX1_append_10 : decode cX1_append 10 = .ok (.aload_n 0, 1) := by decide +kernel
theorem dX1_append_11 : decode cX1_append 11 = .ok (.getfield 22, 3) := by decide +kernel
theorem dX1_append_14 : decode cX1_append 14 = .ok (.ifCond .lt 47, 3) := by decide +kernel
theorem dX1_append_17 : decode cX1_append 17 = .ok (.aload_n 0, 1) := by decide +kernel
theorem dX1_append_18 : decode cX1_append 18 = .ok (.getfield 22, 3) := by decide +kernel
theorem dX1_append_21 : decode cX1_append 21 = .ok (.aload_n 0, 1) := by decide +kernel
theorem dX1_append_22 : decode cX1_append 22 = .ok (.getfield 9, 3) := by decide +kernel
theorem dX1_append_25 : decode cX1_append 25 = .ok (.arraylength, 1) := by decide +kernel
theorem dX1_append_26 : decode cX1_append 26 = .ok (.if_icmp .ge 35, 3) := by decide +kernel
theorem dX1_append_29 : decode cX1_append 29 = .ok (.aload_n 0, 1) := by decide +kernel
theorem dX1_append_30 : decode cX1_append 30 = .ok (.getfield 9, 3) := by decide +kernel
theorem dX1_append_33 : decode cX1_append 33 = .ok (.aload_n 0, 1) := by decide +kernel
theorem dX1_append_34 : decode cX1_append 34 = .ok (.getfield 22, 3) := by decide +kernel
theorem dX1_append_37 : decode cX1_append 37 = .ok (.lload_n 1, 1) := by decide +kernel
theorem dX1_append_38 : decode cX1_append 38 = .ok (.bipush 8, 2) := by decide +kernel
theorem dX1_append_40 : decode cX1_append 40 = .ok (.iload 4, 2) := by decide +kernel
theorem dX1_append_42 : decode cX1_append 42 = .ok (.imul, 1) := by decide +kernel
theorem dX1_append_43 : decode cX1_append 43 = .ok (.lushr, 1) := by decide +kernel
theorem dX1_append_44 : decode cX1_append 44 = .ok (.ldc2_w 26, 3) := by decide +kernel
theorem dX1_append_47 : decode cX1_append 47 = .ok (.land, 1) := by decide +kernel
theorem dX1_append_48 : decode cX1_append 48 = .ok (.l2i, 1) := by decide +kernel
theorem dX1_append_49 : decode cX1_append 49 = .ok (.i2c, 1) := by decide +kernel
theorem dX1_append_50 : decode cX1_append 50 = .ok (.castore, 1) := by decide +kernel
theorem dX1_append_51 : decode cX1_append 51 = .ok (.aload_n 0, 1) := by decide +kernel
theorem dX1_append_52 : decode cX1_append 52 = .ok (.dup, 1) := by decide +kernel
theorem dX1_append_53 : decode cX1_append 53 = .ok (.getfield 22, 3) := by decide +kernel
theorem dX1_append_56 : decode cX1_append 56 = .ok (.iconst 1, 1) := by decide +kernel
theorem dX1_append_57 : decode cX1_append 57 = .ok (.iadd, 1) := by decide +kernel
theorem dX1_append_58 : decode cX1_append 58 = .ok (.putfield 22, 3) := by decide +kernel
theorem dX1_append_61 : decode cX1_append 61 = .ok (.iinc 4 (-1), 3) := by decide +kernel
theorem dX1_append_64 : decode cX1_append 64 = .ok (.goto (-59), 3) := by decide +kernel
theorem dX1_append_67 : decode cX1_append 67 = .ok (.return_, 1) := by decide +kernel
theorem dX1_stepAt_0 : decode cX1_stepAt 0 = .ok (.iload_n 1, 1) := by decide +kernel
theorem dX1_stepAt_1 : decode cX1_stepAt 1 = .ok (.ifCond .lt 21, 3) := by decide +kernel
theorem dX1_stepAt_4 : decode cX1_stepAt 4 = .ok (.iload_n 1, 1) := by decide +kernel
theorem dX1_stepAt_5 : decode cX1_stepAt 5 = .ok (.aload_n 0, 1) := by decide +kernel
theorem dX1_stepAt_6 : decode cX1_stepAt 6 = .ok (.getfield 17, 3) := by decide +kernel
theorem dX1_stepAt_9 : decode cX1_stepAt 9 = .ok (.arraylength, 1) := by decide +kernel
theorem dX1_stepAt_10 : decode cX1_stepAt 10 = .ok (.if_icmp .ge 12, 3) := by decide +kernel
theorem dX1_stepAt_13 : decode cX1_stepAt 13 = .ok (.aload_n 0, 1) := by decide +kernel
theorem dX1_stepAt_14 : decode cX1_stepAt 14 = .ok (.getfield 17, 3) := by decide +kernel
theorem dX1_stepAt_17 : decode cX1_stepAt 17 = .ok (.iload_n 1, 1) := by decide +kernel
theorem dX1_stepAt_18 : decode cX1_stepAt 18 = .ok (.aaload, 1) := by decide +kernel
theorem dX1_stepAt_19 : decode cX1_stepAt 19 = .ok (.goto 4, 3) := by decide +kernel
theorem dX1_stepAt_22 : decode cX1_stepAt 22 = .ok (.aconst_null, 1) := by decide +kernel
theorem dX1_stepAt_23 : decode cX1_stepAt 23 = .ok (.areturn, 1) := by decide +kernel
theorem dX1_readAll_0 : decode cX1_readAll 0 = .ok (.aload_n 0, 1) := by decide +kernel
theorem dX1_readAll_1 : decode cX1_readAll 1 = .ok (.iconst 0, 1) := by decide +kernel
theorem dX1_readAll_2 : decode cX1_readAll 2 = .ok (.putfield 28, 3) := by decide +kernel
theorem dX1_readAll_5 : decode cX1_readAll 5 = .ok (.aload_n 0, 1) := by decide +kernel
theorem dX1_readAll_6 : decode cX1_readAll 6 = .ok (.iconst 0, 1) := by decide +kernel
theorem dX1_readAll_7 : decode cX1_readAll 7 = .ok (.putfield 31, 3) := by decide +kernel
theorem dX1_readAll_10 : decode cX1_readAll 10 = .ok (.aload_n 0, 1) := by decide +kernel
theorem dX1_readAll_11 : decode cX1_readAll 11 = .ok (.iconst 0, 1) := by decide +kernel
theorem dX1_readAll_12 : decode cX1_readAll 12 = .ok (.putfield 34, 3) := by decide +kernel
theorem dX1_readAll_15 : decode cX1_readAll 15 = .ok (.iconst 0, 1) := by decide +kernel
theorem dX1_readAll_16 : decode cX1_readAll 16 = .ok (.istore_n 1, 1) := by decide +kernel
theorem dX1_readAll_17 : decode cX1_readAll 17 = .ok (.iload_n 1, 1) := by decide +kernel
theorem dX1_readAll_18 : decode cX1_readAll 18 = .ok (.bipush 80, 2) := by decide +kernel
theorem dX1_readAll_20 : decode cX1_readAll 20 = .ok (.if_icmp .ge 60, 3) := by decide +kernel
theorem dX1_readAll_23 : decode cX1_readAll 23 = .ok (.aload_n 0, 1) := by decide +kernel
theorem dX1_readAll_24 : decode cX1_readAll 24 = .ok (.iload_n 1, 1) := by decide +kernel
theorem dX1_readAll_25 : decode cX1_readAll 25 = .ok (.invokevirtual 37, 3) := by decide +kernel
theorem dX1_readAll_28 : decode cX1_readAll 28 = .ok (.ifCond .ne 8, 3) := by decide +kernel
theorem dX1_readAll_31 : decode cX1_readAll 31 = .ok (.aload_n 0, 1) := by decide +kernel
theorem dX1_readAll_32 : decode cX1_readAll 32 = .ok (.getfield 28, 3) := by decide +kernel
theorem dX1_readAll_35 : decode cX1_readAll 35 = .ok (.ireturn, 1) := by decide +kernel
theorem dX1_readAll_36 : decode cX1_readAll 36 = .ok (.aload_n 0, 1) := by decide +kernel
theorem dX1_readAll_37 : decode cX1_readAll 37 = .ok (.dup, 1) := by decide +kernel
theorem dX1_readAll_38 : decode cX1_readAll 38 = .ok (.getfield 34, 3) := by decide +kernel
theorem dX1_readAll_41 : decode cX1_readAll 41 = .ok (.iconst 1, 1) := by decide +kernel
theorem dX1_readAll_42 : decode cX1_readAll 42 = .ok (.iadd, 1) := by decide +kernel
theorem dX1_readAll_43 : decode cX1_readAll 43 = .ok (.putfield 34, 3) := by decide +kernel
theorem dX1_readAll_46 : decode cX1_readAll 46 = .ok (.aload_n 0, 1) := by decide +kernel
theorem dX1_readAll_47 : decode cX1_readAll 47 = .ok (.getfield 28, 3) := by decide +kernel
theorem dX1_readAll_50 : decode cX1_readAll 50 = .ok (.aload_n 0, 1) := by decide +kernel
theorem dX1_readAll_51 : decode cX1_readAll 51 = .ok (.getfield 22, 3) := by decide +kernel
theorem dX1_readAll_54 : decode cX1_readAll 54 = .ok (.if_icmp .ne 6, 3) := by decide +kernel
theorem dX1_readAll_57 : decode cX1_readAll 57 = .ok (.bipush (-6), 2) := by decide +kernel
theorem dX1_readAll_59 : decode cX1_readAll 59 = .ok (.ireturn, 1) := by decide +kernel
theorem dX1_readAll_60 : decode cX1_readAll 60 = .ok (.aload_n 0, 1) := by decide +kernel
theorem dX1_readAll_61 : decode cX1_readAll 61 = .ok (.bipush 59, 2) := by decide +kernel
theorem dX1_readAll_63 : decode cX1_readAll 63 = .ok (.invokevirtual 41, 3) := by decide +kernel
theorem dX1_readAll_66 : decode cX1_readAll 66 = .ok (.ifCond .ne 8, 3) := by decide +kernel
theorem dX1_readAll_69 : decode cX1_readAll 69 = .ok (.aload_n 0, 1) := by decide +kernel
theorem dX1_readAll_70 : decode cX1_readAll 70 = .ok (.getfield 28, 3) := by decide +kernel
theorem dX1_readAll_73 : decode cX1_readAll 73 = .ok (.ireturn, 1) := by decide +kernel
theorem dX1_readAll_74 : decode cX1_readAll 74 = .ok (.iinc 1 1, 3) := by decide +kernel
theorem dX1_readAll_77 : decode cX1_readAll 77 = .ok (.goto (-60), 3) := by decide +kernel
theorem dX1_readAll_80 : decode cX1_readAll 80 = .ok (.aload_n 0, 1) := by decide +kernel
theorem dX1_readAll_81 : decode cX1_readAll 81 = .ok (.getfield 28, 3) := by decide +kernel
theorem dX1_readAll_84 : decode cX1_readAll 84 = .ok (.ireturn, 1) := by decide +kernel
theorem dX1_readOrder_0 : decode cX1_readOrder 0 = .ok (.aload_n 0, 1) := by decide +kernel
theorem dX1_readOrder_1 : decode cX1_readOrder 1 = .ok (.bipush 112, 2) := by decide +kernel
theorem dX1_readOrder_3 : decode cX1_readOrder 3 = .ok (.invokevirtual 41, 3) := by decide +kernel
theorem dX1_readOrder_6 : decode cX1_readOrder 6 = .ok (.ifCond .eq 32, 3) := by decide +kernel
theorem dX1_readOrder_9 : decode cX1_readOrder 9 = .ok (.aload_n 0, 1) := by decide +kernel
theorem dX1_readOrder_10 : decode cX1_readOrder 10 = .ok (.invokevirtual 45, 3) := by decide +kernel
theorem dX1_readOrder_13 : decode cX1_readOrder 13 = .ok (.istore_n 2, 1) := by decide +kernel
theorem dX1_readOrder_14 : decode cX1_readOrder 14 = .ok (.iload_n 2, 1) := by decide +kernel
theorem dX1_readOrder_15 : decode cX1_readOrder 15 = .ok (.iconst (-1), 1) := by decide +kernel
theorem dX1_readOrder_16 : decode cX1_readOrder 16 = .ok (.if_icmp .eq 20, 3) := by decide +kernel
theorem dX1_readOrder_19 : decode cX1_readOrder 19 = .ok (.aload_n 0, 1) := by decide +kernel
theorem dX1_readOrder_20 : decode cX1_readOrder 20 = .ok (.bipush 112, 2) := by decide +kernel
theorem dX1_readOrder_22 : decode cX1_readOrder 22 = .ok (.iconst 0, 1) := by decide +kernel
theorem dX1_readOrder_23 : decode cX1_readOrder 23 = .ok (.iload_n 2, 1) := by decide +kernel
theorem dX1_readOrder_24 : decode cX1_readOrder 24 = .ok (.iload_n 2, 1) := by decide +kernel
theorem dX1_readOrder_25 : decode cX1_readOrder 25 = .ok (.iload_n 1, 1) := by decide +kernel
theorem dX1_readOrder_26 : decode cX1_readOrder 26 = .ok (.invokevirtual 49, 3) := by decide +kernel
theorem dX1_readOrder_29 : decode cX1_readOrder 29 = .ok (.ifCond .eq 7, 3) := by decide +kernel
theorem dX1_readOrder_32 : decode cX1_readOrder 32 = .ok (.iconst 1, 1) := by decide +kernel
theorem dX1_readOrder_33 : decode cX1_readOrder 33 = .ok (.goto 4, 3) := by decide +kernel
theorem dX1_readOrder_36 : decode cX1_readOrder 36 = .ok (.iconst 0, 1) := by decide +kernel
theorem dX1_readOrder_37 : decode cX1_readOrder 37 = .ok (.ireturn, 1) := by decide +kernel
theorem dX1_readOrder_38 : decode cX1_readOrder 38 = .ok (.aload_n 0, 1) := by decide +kernel
theorem dX1_readOrder_39 : decode cX1_readOrder 39 = .ok (.invokevirtual 53, 3) := by decide +kernel
theorem dX1_readOrder_42 : decode cX1_readOrder 42 = .ok (.istore_n 2, 1) := by decide +kernel
theorem dX1_readOrder_43 : decode cX1_readOrder 43 = .ok (.aload_n 0, 1) := by decide +kernel
theorem dX1_readOrder_44 : decode cX1_readOrder 44 = .ok (.bipush 109, 2) := by decide +kernel
theorem dX1_readOrder_46 : decode cX1_readOrder 46 = .ok (.invokevirtual 41, 3) := by decide +kernel
theorem dX1_readOrder_49 : decode cX1_readOrder 49 = .ok (.ifCond .ne 14, 3) := by decide +kernel
theorem dX1_readOrder_52 : decode cX1_readOrder 52 = .ok (.aload_n 0, 1) := by decide +kernel
theorem dX1_readOrder_53 : decode cX1_readOrder 53 = .ok (.bipush 99, 2) := by decide +kernel
theorem dX1_readOrder_55 : decode cX1_readOrder 55 = .ok (.invokevirtual 41, 3) := by decide +kernel
theorem dX1_readOrder_58 : decode cX1_readOrder 58 = .ok (.ifCond .ne 5, 3) := by decide +kernel
theorem dX1_readOrder_61 : decode cX1_readOrder 61 = .ok (.iconst 0, 1) := by decide +kernel
theorem dX1_readOrder_62 : decode cX1_readOrder 62 = .ok (.ireturn, 1) := by decide +kernel
theorem dX1_readOrder_63 : decode cX1_readOrder 63 = .ok (.aload_n 0, 1) := by decide +kernel
theorem dX1_readOrder_64 : decode cX1_readOrder 64 = .ok (.invokevirtual 53, 3) := by decide +kernel
theorem dX1_readOrder_67 : decode cX1_readOrder 67 = .ok (.bipush 97, 2) := by decide +kernel
theorem dX1_readOrder_69 : decode cX1_readOrder 69 = .ok (.isub, 1) := by decide +kernel
theorem dX1_readOrder_70 : decode cX1_readOrder 70 = .ok (.istore_n 3, 1) := by decide +kernel
theorem dX1_readOrder_71 : decode cX1_readOrder 71 = .ok (.iload_n 3, 1) := by decide +kernel
theorem dX1_readOrder_72 : decode cX1_readOrder 72 = .ok (.invokestatic 57, 3) := by decide +kernel
theorem dX1_readOrder_75 : decode cX1_readOrder 75 = .ok (.ifCond .ne 5, 3) := by decide +kernel
theorem dX1_readOrder_78 : decode cX1_readOrder 78 = .ok (.iconst 0, 1) := by decide +kernel
theorem dX1_readOrder_79 : decode cX1_readOrder 79 = .ok (.ireturn, 1) := by decide +kernel
theorem dX1_readOrder_80 : decode cX1_readOrder 80 = .ok (.aload_n 0, 1) := by decide +kernel
theorem dX1_readOrder_81 : decode cX1_readOrder 81 = .ok (.dup, 1) := by decide +kernel
theorem dX1_readOrder_82 : decode cX1_readOrder 82 = .ok (.getfield 28, 3) := by decide +kernel
theorem dX1_readOrder_85 : decode cX1_readOrder 85 = .ok (.iconst 1, 1) := by decide +kernel
theorem dX1_readOrder_86 : decode cX1_readOrder 86 = .ok (.iadd, 1) := by decide +kernel
theorem dX1_readOrder_87 : decode cX1_readOrder 87 = .ok (.putfield 28, 3) := by decide +kernel
theorem dX1_readOrder_90 : decode cX1_readOrder 90 = .ok (.aload_n 0, 1) := by decide +kernel
theorem dX1_readOrder_91 : decode cX1_readOrder 91 = .ok (.bipush 58, 2) := by decide +kernel
theorem dX1_readOrder_93 : decode cX1_readOrder 93 = .ok (.invokevirtual 41, 3) := by decide +kernel
theorem dX1_readOrder_96 : decode cX1_readOrder 96 = .ok (.ifCond .eq 17, 3) := by decide +kernel
theorem dX1_readOrder_99 : decode cX1_readOrder 99 = .ok (.aload_n 0, 1) := by decide +kernel
theorem dX1_readOrder_100 : decode cX1_readOrder 100 = .ok (.iload_n 2, 1) := by decide +kernel
theorem dX1_readOrder_101 : decode cX1_readOrder 101 = .ok (.iload_n 3, 1) := by decide +kernel
theorem dX1_readOrder_102 : decode cX1_readOrder 102 = .ok (.iload_n 1, 1) := by decide +kernel
theorem dX1_readOrder_103 : decode cX1_readOrder 103 = .ok (.invokevirtual 60, 3) := by decide +kernel
theorem dX1_readOrder_106 : decode cX1_readOrder 106 = .ok (.ifCond .eq 7, 3) := by decide +kernel
theorem dX1_readOrder_109 : decode cX1_readOrder 109 = .ok (.iconst 1, 1) := by decide +kernel
theorem dX1_readOrder_110 : decode cX1_readOrder 110 = .ok (.goto 4, 3) := by decide +kernel
theorem dX1_readOrder_113 : decode cX1_readOrder 113 = .ok (.iconst 0, 1) := by decide +kernel
theorem dX1_readOrder_114 : decode cX1_readOrder 114 = .ok (.ireturn, 1) := by decide +kernel
theorem dX1_readRanges_0 : decode cX1_readRanges 0 = .ok (.iconst 0, 1) := by decide +kernel
theorem dX1_readRanges_1 : decode cX1_readRanges 1 = .ok (.istore 4, 2) := by decide +kernel
theorem dX1_readRanges_3 : decode cX1_readRanges 3 = .ok (.iload 4, 2) := by decide +kernel
theorem dX1_readRanges_5 : decode cX1_readRanges 5 = .ok (.bipush 80, 2) := by decide +kernel
theorem dX1_readRanges_7 : decode cX1_readRanges 7 = .ok (.if_icmp .ge 73, 3) := by decide +kernel
theorem dX1_readRanges_10 : decode cX1_readRanges 10 = .ok (.aload_n 0, 1) := by decide +kernel
theorem dX1_readRanges_11 : decode cX1_readRanges 11 = .ok (.invokevirtual 45, 3) := by decide +kernel
theorem dX1_readRanges_14 : decode cX1_readRanges 14 = .ok (.istore 5, 2) := by decide +kernel
theorem dX1_readRanges_16 : decode cX1_readRanges 16 = .ok (.iload 5, 2) := by decide +kernel
theorem dX1_readRanges_18 : decode cX1_readRanges 18 = .ok (.istore 6, 2) := by decide +kernel
theorem dX1_readRanges_20 : decode cX1_readRanges 20 = .ok (.iload 5, 2) := by decide +kernel
theorem dX1_readRanges_22 : decode cX1_readRanges 22 = .ok (.iconst (-1), 1) := by decide +kernel
theorem dX1_readRanges_23 : decode cX1_readRanges 23 = .ok (.if_icmp .eq 18, 3) := by decide +kernel
theorem dX1_readRanges_26 : decode cX1_readRanges 26 = .ok (.aload_n 0, 1) := by decide +kernel
theorem dX1_readRanges_27 : decode cX1_readRanges 27 = .ok (.bipush 45, 2) := by decide +kernel
theorem dX1_readRanges_29 : decode cX1_readRanges 29 = .ok (.invokevirtual 41, 3) := by decide +kernel
theorem dX1_readRanges_32 : decode cX1_readRanges 32 = .ok (.ifCond .eq 9, 3) := by decide +kernel
theorem dX1_readRanges_35 : decode cX1_readRanges 35 = .ok (.aload_n 0, 1) := by decide +kernel
theorem dX1_readRanges_36 : decode cX1_readRanges 36 = .ok (.invokevirtual 45, 3) := by decide +kernel
theorem dX1_readRanges_39 : decode cX1_readRanges 39 = .ok (.istore 6, 2) := by decide +kernel
theorem dX1_readRanges_41 : decode cX1_readRanges 41 = .ok (.iload 6, 2) := by decide +kernel
theorem dX1_readRanges_43 : decode cX1_readRanges 43 = .ok (.iconst (-1), 1) := by decide +kernel
theorem dX1_readRanges_44 : decode cX1_readRanges 44 = .ok (.if_icmp .eq 17, 3) := by decide +kernel
theorem dX1_readRanges_47 : decode cX1_readRanges 47 = .ok (.aload_n 0, 1) := by decide +kernel
theorem dX1_readRanges_48 : decode cX1_readRanges 48 = .ok (.iload_n 1, 1) := by decide +kernel
theorem dX1_readRanges_49 : decode cX1_readRanges 49 = .ok (.iload_n 2, 1) := by decide +kernel
theorem dX1_readRanges_50 : decode cX1_readRanges 50 = .ok (.iload 5, 2) := by decide +kernel
theorem dX1_readRanges_52 : decode cX1_readRanges 52 = .ok (.iload 6, 2) := by decide +kernel
theorem dX1_readRanges_54 : decode cX1_readRanges 54 = .ok (.iload_n 3, 1) := by decide +kernel
theorem dX1_readRanges_55 : decode cX1_readRanges 55 = .ok (.invokevirtual 49, 3) := by decide +kernel
theorem dX1_readRanges_58 : decode cX1_readRanges 58 = .ok (.ifCond .ne 5, 3) := by decide +kernel
theorem dX1_readRanges_61 : decode cX1_readRanges 61 = .ok (.iconst 0, 1) := by decide +kernel
theorem dX1_readRanges_62 : decode cX1_readRanges 62 = .ok (.ireturn, 1) := by decide +kernel
theorem dX1_readRanges_63 : decode cX1_readRanges 63 = .ok (.aload_n 0, 1) := by decide +kernel
theorem dX1_readRanges_64 : decode cX1_readRanges 64 = .ok (.bipush 44, 2) := by decide +kernel
theorem dX1_readRanges_66 : decode cX1_readRanges 66 = .ok (.invokevirtual 41, 3) := by decide +kernel
theorem dX1_readRanges_69 : decode cX1_readRanges 69 = .ok (.ifCond .ne 5, 3) := by decide +kernel
theorem dX1_readRanges_72 : decode cX1_readRanges 72 = .ok (.iconst 1, 1) := by decide +kernel
theorem dX1_readRanges_73 : decode cX1_readRanges 73 = .ok (.ireturn, 1) := by decide +kernel
theorem dX1_readRanges_74 : decode cX1_readRanges 74 = .ok (.iinc 4 1, 3) := by decide +kernel
theorem dX1_readRanges_77 : decode cX1_readRanges 77 = .ok (.goto (-74), 3) := by decide +kernel
theorem dX1_readRanges_80 : decode cX1_readRanges 80 = .ok (.iconst 0, 1) := by decide +kernel
theorem dX1_readRanges_81 : decode cX1_readRanges 81 = .ok (.ireturn, 1) := by decide +kernel
theorem dX1_readNumber_0 : decode cX1_readNumber 0 = .ok (.aload_n 0, 1) := by decide +kernel
theorem dX1_readNumber_1 : decode cX1_readNumber 1 = .ok (.invokevirtual 64, 3) := by decide +kernel
theorem dX1_readNumber_4 : decode cX1_readNumber 4 = .ok (.istore_n 1, 1) := by decide +kernel
theorem dX1_readNumber_5 : decode cX1_readNumber 5 = .ok (.iload_n 1, 1) := by decide +kernel
theorem dX1_readNumber_6 : decode cX1_readNumber 6 = .ok (.iconst (-1), 1) := by decide +kernel
theorem dX1_readNumber_7 : decode cX1_readNumber 7 = .ok (.if_icmp .ne 5, 3) := by decide +kernel
theorem dX1_readNumber_10 : decode cX1_readNumber 10 = .ok (.iconst (-1), 1) := by decide +kernel
theorem dX1_readNumber_11 : decode cX1_readNumber 11 = .ok (.ireturn, 1) := by decide +kernel
theorem dX1_readNumber_12 : decode cX1_readNumber 12 = .ok (.aload_n 0, 1) := by decide +kernel
theorem dX1_readNumber_13 : decode cX1_readNumber 13 = .ok (.dup, 1) := by decide +kernel
theorem dX1_readNumber_14 : decode cX1_readNumber 14 = .ok (.getfield 28, 3) := by decide +kernel
theorem dX1_readNumber_17 : decode cX1_readNumber 17 = .ok (.iconst 1, 1) := by decide +kernel
theorem dX1_readNumber_18 : decode cX1_readNumber 18 = .ok (.iadd, 1) := by decide +kernel
theorem dX1_readNumber_19 : decode cX1_readNumber 19 = .ok (.putfield 28, 3) := by decide +kernel
theorem dX1_readNumber_22 : decode cX1_readNumber 22 = .ok (.iconst 0, 1) := by decide +kernel
theorem dX1_readNumber_23 : decode cX1_readNumber 23 = .ok (.istore_n 2, 1) := by decide +kernel
theorem dX1_readNumber_24 : decode cX1_readNumber 24 = .ok (.iload_n 2, 1) := by decide +kernel
theorem dX1_readNumber_25 : decode cX1_readNumber 25 = .ok (.bipush 80, 2) := by decide +kernel
theorem dX1_readNumber_27 : decode cX1_readNumber 27 = .ok (.if_icmp .ge 54, 3) := by decide +kernel
theorem dX1_readNumber_30 : decode cX1_readNumber 30 = .ok (.aload_n 0, 1) := by decide +kernel
theorem dX1_readNumber_31 : decode cX1_readNumber 31 = .ok (.invokevirtual 64, 3) := by decide +kernel
theorem dX1_readNumber_34 : decode cX1_readNumber 34 = .ok (.istore_n 3, 1) := by decide +kernel
theorem dX1_readNumber_35 : decode cX1_readNumber 35 = .ok (.iload_n 3, 1) := by decide +kernel
theorem dX1_readNumber_36 : decode cX1_readNumber 36 = .ok (.iconst (-1), 1) := by decide +kernel
theorem dX1_readNumber_37 : decode cX1_readNumber 37 = .ok (.if_icmp .eq 19, 3) := by decide +kernel
theorem dX1_readNumber_40 : decode cX1_readNumber 40 = .ok (.iload_n 1, 1) := by decide +kernel
theorem dX1_readNumber_41 : decode cX1_readNumber 41 = .ok (.ifCond .eq 15, 3) := by decide +kernel
theorem dX1_readNumber_44 : decode cX1_readNumber 44 = .ok (.iload_n 1, 1) := by decide +kernel
theorem dX1_readNumber_45 : decode cX1_readNumber 45 = .ok (.bipush 10, 2) := by decide +kernel
theorem dX1_readNumber_47 : decode cX1_readNumber 47 = .ok (.imul, 1) := by decide +kernel
theorem dX1_readNumber_48 : decode cX1_readNumber 48 = .ok (.iload_n 3, 1) := by decide +kernel
theorem dX1_readNumber_49 : decode cX1_readNumber 49 = .ok (.iadd, 1) := by decide +kernel
theorem dX1_readNumber_50 : decode cX1_readNumber 50 = .ok (.sipush 3649, 3) := by decide +kernel
theorem dX1_readNumber_53 : decode cX1_readNumber 53 = .ok (.if_icmp .le 5, 3) := by decide +kernel
theorem dX1_readNumber_56 : decode cX1_readNumber 56 = .ok (.iload_n 1, 1) := by decide +kernel
theorem dX1_readNumber_57 : decode cX1_readNumber 57 = .ok (.ireturn, 1) := by decide +kernel
theorem dX1_readNumber_58 : decode cX1_readNumber 58 = .ok (.iload_n 1, 1) := by decide +kernel
theorem dX1_readNumber_59 : decode cX1_readNumber 59 = .ok (.bipush 10, 2) := by decide +kernel
theorem dX1_readNumber_61 : decode cX1_readNumber 61 = .ok (.imul, 1) := by decide +kernel
theorem dX1_readNumber_62 : decode cX1_readNumber 62 = .ok (.iload_n 3, 1) := by decide +kernel
theorem dX1_readNumber_63 : decode cX1_readNumber 63 = .ok (.iadd, 1) := by decide +kernel
theorem dX1_readNumber_64 : decode cX1_readNumber 64 = .ok (.istore_n 1, 1) := by decide +kernel
theorem dX1_readNumber_65 : decode cX1_readNumber 65 = .ok (.aload_n 0, 1) := by decide +kernel
theorem dX1_readNumber_66 : decode cX1_readNumber 66 = .ok (.dup, 1) := by decide +kernel
theorem dX1_readNumber_67 : decode cX1_readNumber 67 = .ok (.getfield 28, 3) := by decide +kernel
theorem dX1_readNumber_70 : decode cX1_readNumber 70 = .ok (.iconst 1, 1) := by decide +kernel
theorem dX1_readNumber_71 : decode cX1_readNumber 71 = .ok (.iadd, 1) := by decide +kernel
theorem dX1_readNumber_72 : decode cX1_readNumber 72 = .ok (.putfield 28, 3) := by decide +kernel
theorem dX1_readNumber_75 : decode cX1_readNumber 75 = .ok (.iinc 2 1, 3) := by decide +kernel
theorem dX1_readNumber_78 : decode cX1_readNumber 78 = .ok (.goto (-54), 3) := by decide +kernel
theorem dX1_readNumber_81 : decode cX1_readNumber 81 = .ok (.iload_n 1, 1) := by decide +kernel
theorem dX1_readNumber_82 : decode cX1_readNumber 82 = .ok (.ireturn, 1) := by decide +kernel
theorem dX1_digitHere_0 : decode cX1_digitHere 0 = .ok (.aload_n 0, 1) := by decide +kernel
theorem dX1_digitHere_1 : decode cX1_digitHere 1 = .ok (.invokevirtual 53, 3) := by decide +kernel
theorem dX1_digitHere_4 : decode cX1_digitHere 4 = .ok (.istore_n 1, 1) := by decide +kernel
theorem dX1_digitHere_5 : decode cX1_digitHere 5 = .ok (.iload_n 1, 1) := by decide +kernel
theorem dX1_digitHere_6 : decode cX1_digitHere 6 = .ok (.bipush 48, 2) := by decide +kernel
theorem dX1_digitHere_8 : decode cX1_digitHere 8 = .ok (.if_icmp .lt 16, 3) := by decide +kernel
theorem dX1_digitHere_11 : decode cX1_digitHere 11 = .ok (.iload_n 1, 1) := by decide +kernel
theorem dX1_digitHere_12 : decode cX1_digitHere 12 = .ok (.bipush 57, 2) := by decide +kernel
theorem dX1_digitHere_14 : decode cX1_digitHere 14 = .ok (.if_icmp .gt 10, 3) := by decide +kernel
theorem dX1_digitHere_17 : decode cX1_digitHere 17 = .ok (.iload_n 1, 1) := by decide +kernel
theorem dX1_digitHere_18 : decode cX1_digitHere 18 = .ok (.bipush 48, 2) := by decide +kernel
theorem dX1_digitHere_20 : decode cX1_digitHere 20 = .ok (.isub, 1) := by decide +kernel
theorem dX1_digitHere_21 : decode cX1_digitHere 21 = .ok (.goto 4, 3) := by decide +kernel
theorem dX1_digitHere_24 : decode cX1_digitHere 24 = .ok (.iconst (-1), 1) := by decide +kernel
theorem dX1_digitHere_25 : decode cX1_digitHere 25 = .ok (.ireturn, 1) := by decide +kernel
theorem dX1_signHere_0 : decode cX1_signHere 0 = .ok (.aload_n 0, 1) := by decide +kernel
theorem dX1_signHere_1 : decode cX1_signHere 1 = .ok (.getfield 28, 3) := by decide +kernel
theorem dX1_signHere_4 : decode cX1_signHere 4 = .ok (.ifCond .lt 30, 3) := by decide +kernel
theorem dX1_signHere_7 : decode cX1_signHere 7 = .ok (.aload_n 0, 1) := by decide +kernel
theorem dX1_signHere_8 : decode cX1_signHere 8 = .ok (.getfield 28, 3) := by decide +kernel
theorem dX1_signHere_11 : decode cX1_signHere 11 = .ok (.aload_n 0, 1) := by decide +kernel
theorem dX1_signHere_12 : decode cX1_signHere 12 = .ok (.getfield 22, 3) := by decide +kernel
theorem dX1_signHere_15 : decode cX1_signHere 15 = .ok (.if_icmp .ge 19, 3) := by decide +kernel
theorem dX1_signHere_18 : decode cX1_signHere 18 = .ok (.aload_n 0, 1) := by decide +kernel
theorem dX1_signHere_19 : decode cX1_signHere 19 = .ok (.getfield 28, 3) := by decide +kernel
theorem dX1_signHere_22 : decode cX1_signHere 22 = .ok (.aload_n 0, 1) := by decide +kernel
theorem dX1_signHere_23 : decode cX1_signHere 23 = .ok (.getfield 9, 3) := by decide +kernel
theorem dX1_signHere_26 : decode cX1_signHere 26 = .ok (.arraylength, 1) := by decide +kernel
theorem dX1_signHere_27 : decode cX1_signHere 27 = .ok (.if_icmp .ge 7, 3) := by decide +kernel
theorem dX1_signHere_30 : decode cX1_signHere 30 = .ok (.iconst 1, 1) := by decide +kernel
theorem dX1_signHere_31 : decode cX1_signHere 31 = .ok (.goto 4, 3) := by decide +kernel
theorem dX1_signHere_34 : decode cX1_signHere 34 = .ok (.iconst 0, 1) := by decide +kernel
theorem dX1_signHere_35 : decode cX1_signHere 35 = .ok (.istore_n 1, 1) := by decide +kernel
theorem dX1_signHere_36 : decode cX1_signHere 36 = .ok (.iload_n 1, 1) := by decide +kernel
theorem dX1_signHere_37 : decode cX1_signHere 37 = .ok (.ifCond .eq 15, 3) := by decide +kernel
theorem dX1_signHere_40 : decode cX1_signHere 40 = .ok (.aload_n 0, 1) := by decide +kernel
theorem dX1_signHere_41 : decode cX1_signHere 41 = .ok (.getfield 9, 3) := by decide +kernel
theorem dX1_signHere_44 : decode cX1_signHere 44 = .ok (.aload_n 0, 1) := by decide +kernel
theorem dX1_signHere_45 : decode cX1_signHere 45 = .ok (.getfield 28, 3) := by decide +kernel
theorem dX1_signHere_48 : decode cX1_signHere 48 = .ok (.caload, 1) := by decide +kernel
theorem dX1_signHere_49 : decode cX1_signHere 49 = .ok (.goto 4, 3) := by decide +kernel
theorem dX1_signHere_52 : decode cX1_signHere 52 = .ok (.iconst 0, 1) := by decide +kernel
theorem dX1_signHere_53 : decode cX1_signHere 53 = .ok (.ireturn, 1) := by decide +kernel
theorem dX1_take_0 : decode cX1_take 0 = .ok (.aload_n 0, 1) := by decide +kernel
theorem dX1_take_1 : decode cX1_take 1 = .ok (.invokevirtual 53, 3) := by decide +kernel
theorem dX1_take_4 : decode cX1_take 4 = .ok (.iload_n 1, 1) := by decide +kernel
theorem dX1_take_5 : decode cX1_take 5 = .ok (.if_icmp .eq 5, 3) := by decide +kernel
theorem dX1_take_8 : decode cX1_take 8 = .ok (.iconst 0, 1) := by decide +kernel
theorem dX1_take_9 : decode cX1_take 9 = .ok (.ireturn, 1) := by decide +kernel
theorem dX1_take_10 : decode cX1_take 10 = .ok (.aload_n 0, 1) := by decide +kernel
theorem dX1_take_11 : decode cX1_take 11 = .ok (.dup, 1) := by decide +kernel
theorem dX1_take_12 : decode cX1_take 12 = .ok (.getfield 28, 3) := by decide +kernel
theorem dX1_take_15 : decode cX1_take 15 = .ok (.iconst 1, 1) := by decide +kernel
theorem dX1_take_16 : decode cX1_take 16 = .ok (.iadd, 1) := by decide +kernel
theorem dX1_take_17 : decode cX1_take 17 = .ok (.putfield 28, 3) := by decide +kernel
theorem dX1_take_20 : decode cX1_take 20 = .ok (.iconst 1, 1) := by decide +kernel
theorem dX1_take_21 : decode cX1_take 21 = .ok (.ireturn, 1) := by decide +kernel
theorem dX1_addStep_0 : decode cX1_addStep 0 = .ok (.aload_n 0, 1) := by decide +kernel
theorem dX1_addStep_1 : decode cX1_addStep 1 = .ok (.aload_n 0, 1) := by decide +kernel
theorem dX1_addStep_2 : decode cX1_addStep 2 = .ok (.getfield 31, 3) := by decide +kernel
theorem dX1_addStep_5 : decode cX1_addStep 5 = .ok (.invokevirtual 67, 3) := by decide +kernel
theorem dX1_addStep_8 : decode cX1_addStep 8 = .ok (.astore 6, 2) := by decide +kernel
theorem dX1_addStep_10 : decode cX1_addStep 10 = .ok (.aload 6, 2) := by decide +kernel
theorem dX1_addStep_12 : decode cX1_addStep 12 = .ok (.ifnonnull 5, 3) := by decide +kernel
theorem dX1_addStep_15 : decode cX1_addStep 15 = .ok (.iconst 0, 1) := by decide +kernel
theorem dX1_addStep_16 : decode cX1_addStep 16 = .ok (.ireturn, 1) := by decide +kernel
theorem dX1_addStep_17 : decode cX1_addStep 17 = .ok (.aload 6, 2) := by decide +kernel
theorem dX1_addStep_19 : decode cX1_addStep 19 = .ok (.iload_n 1, 1) := by decide +kernel
theorem dX1_addStep_20 : decode cX1_addStep 20 = .ok (.putfield 71, 3) := by decide +kernel
theorem dX1_addStep_23 : decode cX1_addStep 23 = .ok (.aload 6, 2) := by decide +kernel
theorem dX1_addStep_25 : decode cX1_addStep 25 = .ok (.iload_n 2, 1) := by decide +kernel
theorem dX1_addStep_26 : decode cX1_addStep 26 = .ok (.putfield 75, 3) := by decide +kernel
theorem dX1_addStep_29 : decode cX1_addStep 29 = .ok (.aload 6, 2) := by decide +kernel
theorem dX1_addStep_31 : decode cX1_addStep 31 = .ok (.iload_n 3, 1) := by decide +kernel
theorem dX1_addStep_32 : decode cX1_addStep 32 = .ok (.putfield 78, 3) := by decide +kernel
theorem dX1_addStep_35 : decode cX1_addStep 35 = .ok (.aload 6, 2) := by decide +kernel
theorem dX1_addStep_37 : decode cX1_addStep 37 = .ok (.iload 4, 2) := by decide +kernel
theorem dX1_addStep_39 : decode cX1_addStep 39 = .ok (.putfield 81, 3) := by decide +kernel
theorem dX1_addStep_42 : decode cX1_addStep 42 = .ok (.aload 6, 2) := by decide +kernel
theorem dX1_addStep_44 : decode cX1_addStep 44 = .ok (.iload 5, 2) := by decide +kernel
theorem dX1_addStep_46 : decode cX1_addStep 46 = .ok (.putfield 84, 3) := by decide +kernel
theorem dX1_addStep_49 : decode cX1_addStep 49 = .ok (.aload_n 0, 1) := by decide +kernel
theorem dX1_addStep_50 : decode cX1_addStep 50 = .ok (.dup, 1) := by decide +kernel
theorem dX1_addStep_51 : decode cX1_addStep 51 = .ok (.getfield 31, 3) := by decide +kernel
theorem dX1_addStep_54 : decode cX1_addStep 54 = .ok (.iconst 1, 1) := by decide +kernel
theorem dX1_addStep_55 : decode cX1_addStep 55 = .ok (.iadd, 1) := by decide +kernel
theorem dX1_addStep_56 : decode cX1_addStep 56 = .ok (.putfield 31, 3) := by decide +kernel
theorem dX1_addStep_59 : decode cX1_addStep 59 = .ok (.iconst 1, 1) := by decide +kernel
theorem dX1_addStep_60 : decode cX1_addStep 60 = .ok (.ireturn, 1) := by decide +kernel
theorem dX2_init_0 : decode cX2_init 0 = .ok (.aload_n 0, 1) := by decide +kernel
theorem dX2_init_1 : decode cX2_init 1 = .ok (.invokespecial 1, 3) := by decide +kernel
theorem dX2_init_4 : decode cX2_init 4 = .ok (.return_, 1) := by decide +kernel
theorem dJ6_bitCount_0f7a4_0 : decode cJ6_bitCount_0f7a4 0 = .ok (.iload_n 0, 1) := by decide +kernel
theorem dJ6_bitCount_0f7a4_1 : decode cJ6_bitCount_0f7a4 1 = .ok (.iload_n 0, 1) := by decide +kernel
theorem dJ6_bitCount_0f7a4_2 : decode cJ6_bitCount_0f7a4 2 = .ok (.iconst 1, 1) := by decide +kernel
theorem dJ6_bitCount_0f7a4_3 : decode cJ6_bitCount_0f7a4 3 = .ok (.iushr, 1) := by decide +kernel
theorem dJ6_bitCount_0f7a4_4 : decode cJ6_bitCount_0f7a4 4 = .ok (.ldc_w 265, 3) := by decide +kernel
theorem dJ6_bitCount_0f7a4_7 : decode cJ6_bitCount_0f7a4 7 = .ok (.iand, 1) := by decide +kernel
theorem dJ6_bitCount_0f7a4_8 : decode cJ6_bitCount_0f7a4 8 = .ok (.isub, 1) := by decide +kernel
theorem dJ6_bitCount_0f7a4_9 : decode cJ6_bitCount_0f7a4 9 = .ok (.istore_n 0, 1) := by decide +kernel
theorem dJ6_bitCount_0f7a4_10 : decode cJ6_bitCount_0f7a4 10 = .ok (.iload_n 0, 1) := by decide +kernel
theorem dJ6_bitCount_0f7a4_11 : decode cJ6_bitCount_0f7a4 11 = .ok (.ldc_w 266, 3) := by decide +kernel
theorem dJ6_bitCount_0f7a4_14 : decode cJ6_bitCount_0f7a4 14 = .ok (.iand, 1) := by decide +kernel
theorem dJ6_bitCount_0f7a4_15 : decode cJ6_bitCount_0f7a4 15 = .ok (.iload_n 0, 1) := by decide +kernel
theorem dJ6_bitCount_0f7a4_16 : decode cJ6_bitCount_0f7a4 16 = .ok (.iconst 2, 1) := by decide +kernel
theorem dJ6_bitCount_0f7a4_17 : decode cJ6_bitCount_0f7a4 17 = .ok (.iushr, 1) := by decide +kernel
theorem dJ6_bitCount_0f7a4_18 : decode cJ6_bitCount_0f7a4 18 = .ok (.ldc_w 266, 3) := by decide +kernel
theorem dJ6_bitCount_0f7a4_21 : decode cJ6_bitCount_0f7a4 21 = .ok (.iand, 1) := by decide +kernel
theorem dJ6_bitCount_0f7a4_22 : decode cJ6_bitCount_0f7a4 22 = .ok (.iadd, 1) := by decide +kernel
theorem dJ6_bitCount_0f7a4_23 : decode cJ6_bitCount_0f7a4 23 = .ok (.istore_n 0, 1) := by decide +kernel
theorem dJ6_bitCount_0f7a4_24 : decode cJ6_bitCount_0f7a4 24 = .ok (.iload_n 0, 1) := by decide +kernel
theorem dJ6_bitCount_0f7a4_25 : decode cJ6_bitCount_0f7a4 25 = .ok (.iload_n 0, 1) := by decide +kernel
theorem dJ6_bitCount_0f7a4_26 : decode cJ6_bitCount_0f7a4 26 = .ok (.iconst 4, 1) := by decide +kernel
theorem dJ6_bitCount_0f7a4_27 : decode cJ6_bitCount_0f7a4 27 = .ok (.iushr, 1) := by decide +kernel
theorem dJ6_bitCount_0f7a4_28 : decode cJ6_bitCount_0f7a4 28 = .ok (.iadd, 1) := by decide +kernel
theorem dJ6_bitCount_0f7a4_29 : decode cJ6_bitCount_0f7a4 29 = .ok (.ldc_w 267, 3) := by decide +kernel
theorem dJ6_bitCount_0f7a4_32 : decode cJ6_bitCount_0f7a4 32 = .ok (.iand, 1) := by decide +kernel
theorem dJ6_bitCount_0f7a4_33 : decode cJ6_bitCount_0f7a4 33 = .ok (.istore_n 0, 1) := by decide +kernel
theorem dJ6_bitCount_0f7a4_34 : decode cJ6_bitCount_0f7a4 34 = .ok (.iload_n 0, 1) := by decide +kernel
theorem dJ6_bitCount_0f7a4_35 : decode cJ6_bitCount_0f7a4 35 = .ok (.iload_n 0, 1) := by decide +kernel
theorem dJ6_bitCount_0f7a4_36 : decode cJ6_bitCount_0f7a4 36 = .ok (.bipush 8, 2) := by decide +kernel
theorem dJ6_bitCount_0f7a4_38 : decode cJ6_bitCount_0f7a4 38 = .ok (.iushr, 1) := by decide +kernel
theorem dJ6_bitCount_0f7a4_39 : decode cJ6_bitCount_0f7a4 39 = .ok (.iadd, 1) := by decide +kernel
theorem dJ6_bitCount_0f7a4_40 : decode cJ6_bitCount_0f7a4 40 = .ok (.istore_n 0, 1) := by decide +kernel
theorem dJ6_bitCount_0f7a4_41 : decode cJ6_bitCount_0f7a4 41 = .ok (.iload_n 0, 1) := by decide +kernel
theorem dJ6_bitCount_0f7a4_42 : decode cJ6_bitCount_0f7a4 42 = .ok (.iload_n 0, 1) := by decide +kernel
theorem dJ6_bitCount_0f7a4_43 : decode cJ6_bitCount_0f7a4 43 = .ok (.bipush 16, 2) := by decide +kernel
theorem dJ6_bitCount_0f7a4_45 : decode cJ6_bitCount_0f7a4 45 = .ok (.iushr, 1) := by decide +kernel
theorem dJ6_bitCount_0f7a4_46 : decode cJ6_bitCount_0f7a4 46 = .ok (.iadd, 1) := by decide +kernel
theorem dJ6_bitCount_0f7a4_47 : decode cJ6_bitCount_0f7a4 47 = .ok (.istore_n 0, 1) := by decide +kernel
theorem dJ6_bitCount_0f7a4_48 : decode cJ6_bitCount_0f7a4 48 = .ok (.iload_n 0, 1) := by decide +kernel
theorem dJ6_bitCount_0f7a4_49 : decode cJ6_bitCount_0f7a4 49 = .ok (.bipush 63, 2) := by decide +kernel
theorem dJ6_bitCount_0f7a4_51 : decode cJ6_bitCount_0f7a4 51 = .ok (.iand, 1) := by decide +kernel
theorem dJ6_bitCount_0f7a4_52 : decode cJ6_bitCount_0f7a4 52 = .ok (.ireturn, 1) := by decide +kernel
