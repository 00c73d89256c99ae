theorem dX0_init_0 : decode cX0_init 0 = .ok (.aload_n 0, 1) := by decide +kernel
theorem dX0_init_1 : decode cX0_init 1 = .ok (.invokespecial 3, 3) := by decide +kernel
theorem dX0_init_4 : decode cX0_init 4 = .ok (.aload_n 0, 1) := by decide +kernel
theorem dX0_init_5 : decode cX0_init 5 = .ok (.bipush 8, 2) := by decide +kernel
theorem dX0_init_7 : decode cX0_init 7 = .ok (.newarray .int, 2) := by decide +kernel
theorem dX0_init_9 : decode cX0_init 9 = .ok (.putfield 11, 3) := by decide +kernel
theorem dX0_init_12 : decode cX0_init 12 = .ok (.aload_n 0, 1) := by decide +kernel
theorem dX0_init_13 : decode cX0_init 13 = .ok (.bipush 8, 2) := by decide +kernel
theorem dX0_init_15 : decode cX0_init 15 = .ok (.newarray .int, 2) := by decide +kernel
theorem dX0_init_17 : decode cX0_init 17 = .ok (.putfield 15, 3) := by decide +kernel
theorem dX0_init_20 : decode cX0_init 20 = .ok (.aload_n 0, 1) := by decide +kernel
theorem dX0_init_21 : decode cX0_init 21 = .ok (.bipush 8, 2) := by decide +kernel
theorem dX0_init_23 : decode cX0_init 23 = .ok (.newarray .int, 2) := by decide +kernel
theorem dX0_init_25 : decode cX0_init 25 = .ok (.putfield 18, 3) := by decide +kernel
theorem dX0_init_28 : decode cX0_init 28 = .ok (.aload_n 0, 1) := by decide +kernel
theorem dX0_init_29 : decode cX0_init 29 = .ok (.bipush 8, 2) := by decide +kernel
theorem dX0_init_31 : decode cX0_init 31 = .ok (.newarray .int, 2) := by decide +kernel
theorem dX0_init_33 : decode cX0_init 33 = .ok (.putfield 21, 3) := by decide +kernel
theorem dX0_init_36 : decode cX0_init 36 = .ok (.return_, 1) := by decide +kernel
theorem dX0_add_0 : decode cX0_add 0 = .ok (.aload_n 0, 1) := by decide +kernel
theorem dX0_add_1 : decode cX0_add 1 = .ok (.getfield 24, 3) := by decide +kernel
theorem dX0_add_4 : decode cX0_add 4 = .ok (.bipush 8, 2) := by decide +kernel
theorem dX0_add_6 : decode cX0_add 6 = .ok (.if_icmp .lt 5, 3) := by decide +kernel
theorem dX0_add_9 : decode cX0_add 9 = .ok (.iconst (-1), 1) := by decide +kernel
theorem dX0_add_10 : decode cX0_add 10 = .ok (.ireturn, 1) := by decide +kernel
theorem dX0_add_11 : decode cX0_add 11 = .ok (.aload_n 0, 1) := by decide +kernel
theorem dX0_add_12 : decode cX0_add 12 = .ok (.getfield 11, 3) := by decide +kernel
theorem dX0_add_15 : decode cX0_add 15 = .ok (.aload_n 0, 1) := by decide +kernel
theorem dX0_add_16 : decode cX0_add 16 = .ok (.getfield 24, 3) := by decide +kernel
theorem dX0_add_19 : decode cX0_add 19 = .ok (.iload_n 1, 1) := by decide +kernel
theorem dX0_add_20 : decode cX0_add 20 = .ok (.iastore, 1) := by decide +kernel
theorem dX0_add_21 : decode cX0_add 21 = .ok (.aload_n 0, 1) := by decide +kernel
theorem dX0_add_22 : decode cX0_add 22 = .ok (.getfield 15, 3) := by decide +kernel
theorem dX0_add_25 : decode cX0_add 25 = .ok (.aload_n 0, 1) := by decide +kernel
theorem dX0_add_26 : decode cX0_add 26 = .ok (.getfield 24, 3) := by decide +kernel
theorem dX0_add_29 : decode cX0_add 29 = .ok (.iload_n 2, 1) := by decide +kernel
theorem dX0_add_30 : decode cX0_add 30 = .ok (.iastore, 1) := by decide +kernel
theorem dX0_add_31 : decode cX0_add 31 = .ok (.aload_n 0, 1) := by decide +kernel
theorem dX0_add_32 : decode cX0_add 32 = .ok (.getfield 18, 3) := by decide +kernel
theorem dX0_add_35 : decode cX0_add 35 = .ok (.aload_n 0, 1) := by decide +kernel
theorem dX0_add_36 : decode cX0_add 36 = .ok (.getfield 24, 3) := by decide +kernel
theorem dX0_add_39 : decode cX0_add 39 = .ok (.iload_n 3, 1) := by decide +kernel
theorem dX0_add_40 : decode cX0_add 40 = .ok (.iastore, 1) := by decide +kernel
theorem dX0_add_41 : decode cX0_add 41 = .ok (.aload_n 0, 1) := by decide +kernel
theorem dX0_add_42 : decode cX0_add 42 = .ok (.getfield 24, 3) := by decide +kernel
theorem dX0_add_45 : decode cX0_add 45 = .ok (.istore 4, 2) := by decide +kernel
theorem dX0_add_47 : decode cX0_add 47 = .ok (.iload 4, 2) := by decide +kernel
theorem dX0_add_49 : decode cX0_add 49 = .ok (.ifCond .le 37, 3) := by decide +kernel
theorem dX0_add_52 : decode cX0_add 52 = .ok (.aload_n 0, 1) := by decide +kernel
theorem dX0_add_53 : decode cX0_add 53 = .ok (.iload 4, 2) := by decide +kernel
theorem dX0_add_55 : decode cX0_add 55 = .ok (.iconst 1, 1) := by decide +kernel
theorem dX0_add_56 : decode cX0_add 56 = .ok (.isub, 1) := by decide +kernel
theorem dX0_add_57 : decode cX0_add 57 = .ok (.invokevirtual 28, 3) := by decide +kernel
theorem dX0_add_60 : decode cX0_add 60 = .ok (.iload_n 2, 1) := by decide +kernel
theorem dX0_add_61 : decode cX0_add 61 = .ok (.if_icmp .le 25, 3) := by decide +kernel
theorem dX0_add_64 : decode cX0_add 64 = .ok (.aload_n 0, 1) := by decide +kernel
theorem dX0_add_65 : decode cX0_add 65 = .ok (.getfield 21, 3) := by decide +kernel
theorem dX0_add_68 : decode cX0_add 68 = .ok (.iload 4, 2) := by decide +kernel
theorem dX0_add_70 : decode cX0_add 70 = .ok (.aload_n 0, 1) := by decide +kernel
theorem dX0_add_71 : decode cX0_add 71 = .ok (.getfield 21, 3) := by decide +kernel
theorem dX0_add_74 : decode cX0_add 74 = .ok (.iload 4, 2) := by decide +kernel
theorem dX0_add_76 : decode cX0_add 76 = .ok (.iconst 1, 1) := by decide +kernel
theorem dX0_add_77 : decode cX0_add 77 = .ok (.isub, 1) := by decide +kernel
theorem dX0_add_78 : decode cX0_add 78 = .ok (.iaload, 1) := by decide +kernel
theorem dX0_add_79 : decode cX0_add 79 = .ok (.iastore, 1) := by decide +kernel
theorem dX0_add_80 : decode cX0_add 80 = .ok (.iinc 4 (-1), 3) := by decide +kernel
theorem dX0_add_83 : decode cX0_add 83 = .ok (.goto (-36), 3) := by decide +kernel
theorem dX0_add_86 : decode cX0_add 86 = .ok (.aload_n 0, 1) := by decide +kernel
theorem dX0_add_87 : decode cX0_add 87 = .ok (.getfield 21, 3) := by decide +kernel
theorem dX0_add_90 : decode cX0_add 90 = .ok (.iload 4, 2) := by decide +kernel
theorem dX0_add_92 : decode cX0_add 92 = .ok (.aload_n 0, 1) := by decide +kernel
theorem dX0_add_93 : decode cX0_add 93 = .ok (.getfield 24, 3) := by decide +kernel
theorem dX0_add_96 : decode cX0_add 96 = .ok (.iastore, 1) := by decide +kernel
theorem dX0_add_97 : decode cX0_add 97 = .ok (.aload_n 0, 1) := by decide +kernel
theorem dX0_add_98 : decode cX0_add 98 = .ok (.dup, 1) := by decide +kernel
theorem dX0_add_99 : decode cX0_add 99 = .ok (.getfield 24, 3) := by decide +kernel
theorem dX0_add_102 : decode cX0_add 102 = .ok (.iconst 1, 1) := by decide +kernel
theorem dX0_add_103 : decode cX0_add 103 = .ok (.iadd, 1) := by decide +kernel
theorem dX0_add_104 : decode cX0_add 104 = .ok (.putfield 24, 3) := by decide +kernel
theorem dX0_add_107 : decode cX0_add 107 = .ok (.aload_n 0, 1) := by decide +kernel
theorem dX0_add_108 : decode cX0_add 108 = .ok (.getfield 24, 3) := by decide +kernel
theorem dX0_add_111 : decode cX0_add 111 = .ok (.iconst 1, 1) := by decide +kernel
theorem dX0_add_112 : decode cX0_add 112 = .ok (.isub, 1) := by decide +kernel
theorem dX0_add_113 : decode cX0_add 113 = .ok (.ireturn, 1) := by decide +kernel
theorem dX0_beamAt_0 : decode cX0_beamAt 0 = .ok (.iload_n 1, 1) := by decide +kernel
theorem dX0_beamAt_1 : decode cX0_beamAt 1 = .ok (.ifCond .lt 20, 3) := by decide +kernel
theorem dX0_beamAt_4 : decode cX0_beamAt 4 = .ok (.iload_n 1, 1) := by decide +kernel
theorem dX0_beamAt_5 : decode cX0_beamAt 5 = .ok (.aload_n 0, 1) := by decide +kernel
theorem dX0_beamAt_6 : decode cX0_beamAt 6 = .ok (.getfield 24, 3) := by decide +kernel
theorem dX0_beamAt_9 : decode cX0_beamAt 9 = .ok (.if_icmp .ge 12, 3) := by decide +kernel
theorem dX0_beamAt_12 : decode cX0_beamAt 12 = .ok (.aload_n 0, 1) := by decide +kernel
theorem dX0_beamAt_13 : decode cX0_beamAt 13 = .ok (.getfield 21, 3) := by decide +kernel
theorem dX0_beamAt_16 : decode cX0_beamAt 16 = .ok (.iload_n 1, 1) := by decide +kernel
theorem dX0_beamAt_17 : decode cX0_beamAt 17 = .ok (.iaload, 1) := by decide +kernel
theorem dX0_beamAt_18 : decode cX0_beamAt 18 = .ok (.goto 4, 3) := by decide +kernel
theorem dX0_beamAt_21 : decode cX0_beamAt 21 = .ok (.iconst (-1), 1) := by decide +kernel
theorem dX0_beamAt_22 : decode cX0_beamAt 22 = .ok (.istore_n 2, 1) := by decide +kernel
theorem dX0_beamAt_23 : decode cX0_beamAt 23 = .ok (.iload_n 2, 1) := by decide +kernel
theorem dX0_beamAt_24 : decode cX0_beamAt 24 = .ok (.aload_n 0, 1) := by decide +kernel
theorem dX0_beamAt_25 : decode cX0_beamAt 25 = .ok (.getfield 24, 3) := by decide +kernel
theorem dX0_beamAt_28 : decode cX0_beamAt 28 = .ok (.if_icmp .ge 7, 3) := by decide +kernel
theorem dX0_beamAt_31 : decode cX0_beamAt 31 = .ok (.iload_n 2, 1) := by decide +kernel
theorem dX0_beamAt_32 : decode cX0_beamAt 32 = .ok (.goto 4, 3) := by decide +kernel
theorem dX0_beamAt_35 : decode cX0_beamAt 35 = .ok (.iconst (-1), 1) := by decide +kernel
theorem dX0_beamAt_36 : decode cX0_beamAt 36 = .ok (.ireturn, 1) := by decide +kernel
theorem dX0_dueAt_0 : decode cX0_dueAt 0 = .ok (.aload_n 0, 1) := by decide +kernel
theorem dX0_dueAt_1 : decode cX0_dueAt 1 = .ok (.iload_n 1, 1) := by decide +kernel
theorem dX0_dueAt_2 : decode cX0_dueAt 2 = .ok (.invokevirtual 32, 3) := by decide +kernel
theorem dX0_dueAt_5 : decode cX0_dueAt 5 = .ok (.istore_n 2, 1) := by decide +kernel
theorem dX0_dueAt_6 : decode cX0_dueAt 6 = .ok (.iload_n 2, 1) := by decide +kernel
theorem dX0_dueAt_7 : decode cX0_dueAt 7 = .ok (.ifCond .lt 12, 3) := by decide +kernel
theorem dX0_dueAt_10 : decode cX0_dueAt 10 = .ok (.aload_n 0, 1) := by decide +kernel
theorem dX0_dueAt_11 : decode cX0_dueAt 11 = .ok (.getfield 15, 3) := by decide +kernel
theorem dX0_dueAt_14 : decode cX0_dueAt 14 = .ok (.iload_n 2, 1) := by decide +kernel
theorem dX0_dueAt_15 : decode cX0_dueAt 15 = .ok (.iaload, 1) := by decide +kernel
theorem dX0_dueAt_16 : decode cX0_dueAt 16 = .ok (.goto 4, 3) := by decide +kernel
theorem dX0_dueAt_19 : decode cX0_dueAt 19 = .ok (.iconst 0, 1) := by decide +kernel
theorem dX0_dueAt_20 : decode cX0_dueAt 20 = .ok (.ireturn, 1) := by decide +kernel
theorem dX0_bestSet_0 : decode cX0_bestSet 0 = .ok (.iconst 0, 1) := by decide +kernel
theorem dX0_bestSet_1 : decode cX0_bestSet 1 = .ok (.istore_n 1, 1) := by decide +kernel
theorem dX0_bestSet_2 : decode cX0_bestSet 2 = .ok (.iconst 1, 1) := by decide +kernel
theorem dX0_bestSet_3 : decode cX0_bestSet 3 = .ok (.istore_n 2, 1) := by decide +kernel
theorem dX0_bestSet_4 : decode cX0_bestSet 4 = .ok (.iload_n 2, 1) := by decide +kernel
theorem dX0_bestSet_5 : decode cX0_bestSet 5 = .ok (.iconst 1, 1) := by decide +kernel
theorem dX0_bestSet_6 : decode cX0_bestSet 6 = .ok (.aload_n 0, 1) := by decide +kernel
theorem dX0_bestSet_7 : decode cX0_bestSet 7 = .ok (.getfield 24, 3) := by decide +kernel
theorem dX0_bestSet_10 : decode cX0_bestSet 10 = .ok (.ishl, 1) := by decide +kernel
theorem dX0_bestSet_11 : decode cX0_bestSet 11 = .ok (.if_icmp .ge 32, 3) := by decide +kernel
theorem dX0_bestSet_14 : decode cX0_bestSet 14 = .ok (.aload_n 0, 1) := by decide +kernel
theorem dX0_bestSet_15 : decode cX0_bestSet 15 = .ok (.iload_n 2, 1) := by decide +kernel
theorem dX0_bestSet_16 : decode cX0_bestSet 16 = .ok (.invokevirtual 35, 3) := by decide +kernel
theorem dX0_bestSet_19 : decode cX0_bestSet 19 = .ok (.aload_n 0, 1) := by decide +kernel
theorem dX0_bestSet_20 : decode cX0_bestSet 20 = .ok (.iload_n 1, 1) := by decide +kernel
theorem dX0_bestSet_21 : decode cX0_bestSet 21 = .ok (.invokevirtual 35, 3) := by decide +kernel
theorem dX0_bestSet_24 : decode cX0_bestSet 24 = .ok (.if_icmp .le 13, 3) := by decide +kernel
theorem dX0_bestSet_27 : decode cX0_bestSet 27 = .ok (.aload_n 0, 1) := by decide +kernel
theorem dX0_bestSet_28 : decode cX0_bestSet 28 = .ok (.iload_n 2, 1) := by decide +kernel
theorem dX0_bestSet_29 : decode cX0_bestSet 29 = .ok (.invokevirtual 38, 3) := by decide +kernel
theorem dX0_bestSet_32 : decode cX0_bestSet 32 = .ok (.ifCond .eq 5, 3) := by decide +kernel
theorem dX0_bestSet_35 : decode cX0_bestSet 35 = .ok (.iload_n 2, 1) := by decide +kernel
theorem dX0_bestSet_36 : decode cX0_bestSet 36 = .ok (.istore_n 1, 1) := by decide +kernel
theorem dX0_bestSet_37 : decode cX0_bestSet 37 = .ok (.iinc 2 1, 3) := by decide +kernel
theorem dX0_bestSet_40 : decode cX0_bestSet 40 = .ok (.goto (-36), 3) := by decide +kernel
theorem dX0_bestSet_43 : decode cX0_bestSet 43 = .ok (.iload_n 1, 1) := by decide +kernel
theorem dX0_bestSet_44 : decode cX0_bestSet 44 = .ok (.ireturn, 1) := by decide +kernel
theorem dX0_canBeDone_0 : decode cX0_canBeDone 0 = .ok (.iconst 0, 1) := by decide +kernel
theorem dX0_canBeDone_1 : decode cX0_canBeDone 1 = .ok (.istore_n 2, 1) := by decide +kernel
theorem dX0_canBeDone_2 : decode cX0_canBeDone 2 = .ok (.iconst 0, 1) := by decide +kernel
theorem dX0_canBeDone_3 : decode cX0_canBeDone 3 = .ok (.istore_n 3, 1) := by decide +kernel
theorem dX0_canBeDone_4 : decode cX0_canBeDone 4 = .ok (.iload_n 3, 1) := by decide +kernel
theorem dX0_canBeDone_5 : decode cX0_canBeDone 5 = .ok (.aload_n 0, 1) := by decide +kernel
theorem dX0_canBeDone_6 : decode cX0_canBeDone 6 = .ok (.getfield 24, 3) := by decide +kernel
theorem dX0_canBeDone_9 : decode cX0_canBeDone 9 = .ok (.if_icmp .ge 54, 3) := by decide +kernel
theorem dX0_canBeDone_12 : decode cX0_canBeDone 12 = .ok (.aload_n 0, 1) := by decide +kernel
theorem dX0_canBeDone_13 : decode cX0_canBeDone 13 = .ok (.iload_n 3, 1) := by decide +kernel
theorem dX0_canBeDone_14 : decode cX0_canBeDone 14 = .ok (.invokevirtual 32, 3) := by decide +kernel
theorem dX0_canBeDone_17 : decode cX0_canBeDone 17 = .ok (.istore 4, 2) := by decide +kernel
theorem dX0_canBeDone_19 : decode cX0_canBeDone 19 = .ok (.iload 4, 2) := by decide +kernel
theorem dX0_canBeDone_21 : decode cX0_canBeDone 21 = .ok (.ifCond .lt 36, 3) := by decide +kernel
theorem dX0_canBeDone_24 : decode cX0_canBeDone 24 = .ok (.iload_n 1, 1) := by decide +kernel
theorem dX0_canBeDone_25 : decode cX0_canBeDone 25 = .ok (.iload 4, 2) := by decide +kernel
theorem dX0_canBeDone_27 : decode cX0_canBeDone 27 = .ok (.ishr, 1) := by decide +kernel
theorem dX0_canBeDone_28 : decode cX0_canBeDone 28 = .ok (.iconst 1, 1) := by decide +kernel
theorem dX0_canBeDone_29 : decode cX0_canBeDone 29 = .ok (.iand, 1) := by decide +kernel
theorem dX0_canBeDone_30 : decode cX0_canBeDone 30 = .ok (.iconst 1, 1) := by decide +kernel
theorem dX0_canBeDone_31 : decode cX0_canBeDone 31 = .ok (.if_icmp .ne 26, 3) := by decide +kernel
theorem dX0_canBeDone_34 : decode cX0_canBeDone 34 = .ok (.iload_n 2, 1) := by decide +kernel
theorem dX0_canBeDone_35 : decode cX0_canBeDone 35 = .ok (.aload_n 0, 1) := by decide +kernel
theorem dX0_canBeDone_36 : decode cX0_canBeDone 36 = .ok (.getfield 11, 3) := by decide +kernel
theorem dX0_canBeDone_39 : decode cX0_canBeDone 39 = .ok (.iload 4, 2) := by decide +kernel
theorem dX0_canBeDone_41 : decode cX0_canBeDone 41 = .ok (.iaload, 1) := by decide +kernel
theorem dX0_canBeDone_42 : decode cX0_canBeDone 42 = .ok (.iadd, 1) := by decide +kernel
theorem dX0_canBeDone_43 : decode cX0_canBeDone 43 = .ok (.istore_n 2, 1) := by decide +kernel
theorem dX0_canBeDone_44 : decode cX0_canBeDone 44 = .ok (.iload_n 2, 1) := by decide +kernel
theorem dX0_canBeDone_45 : decode cX0_canBeDone 45 = .ok (.aload_n 0, 1) := by decide +kernel
theorem dX0_canBeDone_46 : decode cX0_canBeDone 46 = .ok (.getfield 15, 3) := by decide +kernel
theorem dX0_canBeDone_49 : decode cX0_canBeDone 49 = .ok (.iload 4, 2) := by decide +kernel
theorem dX0_canBeDone_51 : decode cX0_canBeDone 51 = .ok (.iaload, 1) := by decide +kernel
theorem dX0_canBeDone_52 : decode cX0_canBeDone 52 = .ok (.if_icmp .le 5, 3) := by decide +kernel
theorem dX0_canBeDone_55 : decode cX0_canBeDone 55 = .ok (.iconst 0, 1) := by decide +kernel
theorem dX0_canBeDone_56 : decode cX0_canBeDone 56 = .ok (.ireturn, 1) := by decide +kernel
theorem dX0_canBeDone_57 : decode cX0_canBeDone 57 = .ok (.iinc 3 1, 3) := by decide +kernel
theorem dX0_canBeDone_60 : decode cX0_canBeDone 60 = .ok (.goto (-56), 3) := by decide +kernel
theorem dX0_canBeDone_63 : decode cX0_canBeDone 63 = .ok (.iconst 1, 1) := by decide +kernel
theorem dX0_canBeDone_64 : decode cX0_canBeDone 64 = .ok (.ireturn, 1) := by decide +kernel
theorem dX0_worthOf_0 : decode cX0_worthOf 0 = .ok (.iconst 0, 1) := by decide +kernel
theorem dX0_worthOf_1 : decode cX0_worthOf 1 = .ok (.istore_n 2, 1) := by decide +kernel
theorem dX0_worthOf_2 : decode cX0_worthOf 2 = .ok (.iconst 0, 1) := by decide +kernel
theorem dX0_worthOf_3 : decode cX0_worthOf 3 = .ok (.istore_n 3, 1) := by decide +kernel
theorem dX0_worthOf_4 : decode cX0_worthOf 4 = .ok (.iload_n 3, 1) := by decide +kernel
theorem dX0_worthOf_5 : decode cX0_worthOf 5 = .ok (.aload_n 0, 1) := by decide +kernel
theorem dX0_worthOf_6 : decode cX0_worthOf 6 = .ok (.getfield 24, 3) := by decide +kernel
theorem dX0_worthOf_9 : decode cX0_worthOf 9 = .ok (.if_icmp .ge 27, 3) := by decide +kernel
theorem dX0_worthOf_12 : decode cX0_worthOf 12 = .ok (.iload_n 1, 1) := by decide +kernel
theorem dX0_worthOf_13 : decode cX0_worthOf 13 = .ok (.iload_n 3, 1) := by decide +kernel
theorem dX0_worthOf_14 : decode cX0_worthOf 14 = .ok (.ishr, 1) := by decide +kernel
theorem dX0_worthOf_15 : decode cX0_worthOf 15 = .ok (.iconst 1, 1) := by decide +kernel
theorem dX0_worthOf_16 : decode cX0_worthOf 16 = .ok (.iand, 1) := by decide +kernel
theorem dX0_worthOf_17 : decode cX0_worthOf 17 = .ok (.iconst 1, 1) := by decide +kernel
theorem dX0_worthOf_18 : decode cX0_worthOf 18 = .ok (.if_icmp .ne 12, 3) := by decide +kernel
theorem dX0_worthOf_21 : decode cX0_worthOf 21 = .ok (.iload_n 2, 1) := by decide +kernel
theorem dX0_worthOf_22 : decode cX0_worthOf 22 = .ok (.aload_n 0, 1) := by decide +kernel
theorem dX0_worthOf_23 : decode cX0_worthOf 23 = .ok (.getfield 18, 3) := by decide +kernel
theorem dX0_worthOf_26 : decode cX0_worthOf 26 = .ok (.iload_n 3, 1) := by decide +kernel
theorem dX0_worthOf_27 : decode cX0_worthOf 27 = .ok (.iaload, 1) := by decide +kernel
theorem dX0_worthOf_28 : decode cX0_worthOf 28 = .ok (.iadd, 1) := by decide +kernel
theorem dX0_worthOf_29 : decode cX0_worthOf 29 = .ok (.istore_n 2, 1) := by decide +kernel
theorem dX0_worthOf_30 : decode cX0_worthOf 30 = .ok (.iinc 3 1, 3) := by decide +kernel
theorem dX0_worthOf_33 : decode cX0_worthOf 33 = .ok (.goto (-29), 3) := by decide +kernel
theorem dX0_worthOf_36 : decode cX0_worthOf 36 = .ok (.iload_n 2, 1) := by decide +kernel
theorem dX0_worthOf_37 : decode cX0_worthOf 37 = .ok (.ireturn, 1) := by decide +kernel
theorem dX1_init_0 : decode cX1_init 0 = .ok (.aload_n 0, 1) := by decide +kernel
theorem dX1_init_1 : decode cX1_init 1 = .ok (.invokespecial 3, 3) := by decide +kernel
theorem dX1_init_4 : decode cX1_init 4 = .ok (.aload_n 0, 1) := by decide +kernel
theorem dX1_init_5 : decode cX1_init 5 = .ok (.aload_n 1, 1) := by decide +kernel
theorem dX1_init_6 : decode cX1_init 6 = .ok (.putfield 9, 3) := by decide +kernel
theorem dX1_init_9 : decode cX1_init 9 = .ok (.aload_n 0, 1) := by decide +kernel
theorem dX1_init_10 : decode cX1_init 10 = .ok (.aload_n 2, 1) := by decide +kernel
theorem dX1_init_11 : decode cX1_init 11 = .ok (.putfield 15, 3) := by decide +kernel
theorem dX1_init_14 : decode cX1_init 14 = .ok (.aload_n 0, 1) := by decide +kernel
theorem dX1_init_15 : decode cX1_init 15 = .ok (.bipush 52, 2) := by decide +kernel
theorem dX1_init_17 : decode cX1_init 17 = .ok (.newarray .int, 2) := by decide +kernel
theorem dX1_init_19 : decode cX1_init 19 = .ok (.putfield 19, 3) := by decide +kernel
theorem dX1_init_22 : decode cX1_init 22 = .ok (.aload_n 0, 1) := by decide +kernel
theorem dX1_init_23 : decode cX1_init 23 = .ok (.bipush 32, 2) := by decide +kernel
theorem dX1_init_25 : decode cX1_init 25 = .ok (.newarray .int, 2) := by decide +kernel
theorem dX1_init_27 : decode cX1_init 27 = .ok (.putfield 25, 3) := by decide +kernel
theorem dX1_init_30 : decode cX1_init 30 = .ok (.aload_n 0, 1) := by decide +kernel
theorem dX1_init_31 : decode cX1_init 31 = .ok (.getfield 19, 3) := by decide +kernel
theorem dX1_init_34 : decode cX1_init 34 = .ok (.iconst (-1), 1) := by decide +kernel
theorem dX1_init_35 : decode cX1_init 35 = .ok (.invokestatic 28, 3) := by decide +kernel
theorem dX1_init_38 : decode cX1_init 38 = .ok (.aload_n 0, 1) := by decide +kernel
theorem dX1_init_39 : decode cX1_init 39 = .ok (.getfield 25, 3) := by decide +kernel
theorem dX1_init_42 : decode cX1_init 42 = .ok (.iconst (-1), 1) := by decide +kernel
theorem dX1_init_43 : decode cX1_init 43 = .ok (.invokestatic 28, 3) := by decide +kernel
theorem dX1_init_46 : decode cX1_init 46 = .ok (.return_, 1) := by decide +kernel
theorem dX1_codeOf_0 : decode cX1_codeOf 0 = .ok (.iload_n 1, 1) := by decide +kernel
theorem dX1_codeOf_1 : decode cX1_codeOf 1 = .ok (.iconst 2, 1) := by decide +kernel
theorem dX1_codeOf_2 : decode cX1_codeOf 2 = .ok (.if_icmp .lt 18, 3) := by decide +kernel
theorem dX1_codeOf_5 : decode cX1_codeOf 5 = .ok (.iload_n 1, 1) := by decide +kernel
theorem dX1_codeOf_6 : decode cX1_codeOf 6 = .ok (.bipush 12, 2) := by decide +kernel
theorem dX1_codeOf_8 : decode cX1_codeOf 8 = .ok (.if_icmp .gt 12, 3) := by decide +kernel
theorem dX1_codeOf_11 : decode cX1_codeOf 11 = .ok (.iload_n 2, 1) := by decide +kernel
theorem dX1_codeOf_12 : decode cX1_codeOf 12 = .ok (.ifCond .lt 8, 3) := by decide +kernel
theorem dX1_codeOf_15 : decode cX1_codeOf 15 = .ok (.iload_n 2, 1) := by decide +kernel
theorem dX1_codeOf_16 : decode cX1_codeOf 16 = .ok (.iconst 4, 1) := by decide +kernel
theorem dX1_codeOf_17 : decode cX1_codeOf 17 = .ok (.if_icmp .lt 5, 3) := by decide +kernel
theorem dX1_codeOf_20 : decode cX1_codeOf 20 = .ok (.iconst (-1), 1) := by decide +kernel
theorem dX1_codeOf_21 : decode cX1_codeOf 21 = .ok (.ireturn, 1) := by decide +kernel
theorem dX1_codeOf_22 : decode cX1_codeOf 22 = .ok (.aload_n 0, 1) := by decide +kernel
theorem dX1_codeOf_23 : decode cX1_codeOf 23 = .ok (.getfield 19, 3) := by decide +kernel
theorem dX1_codeOf_26 : decode cX1_codeOf 26 = .ok (.iload_n 1, 1) := by decide +kernel
theorem dX1_codeOf_27 : decode cX1_codeOf 27 = .ok (.iconst 4, 1) := by decide +kernel
theorem dX1_codeOf_28 : decode cX1_codeOf 28 = .ok (.imul, 1) := by decide +kernel
theorem dX1_codeOf_29 : decode cX1_codeOf 29 = .ok (.iaload, 1) := by decide +kernel
theorem dX1_codeOf_30 : decode cX1_codeOf 30 = .ok (.iconst (-1), 1) := by decide +kernel
theorem dX1_codeOf_31 : decode cX1_codeOf 31 = .ok (.if_icmp .ne 17, 3) := by decide +kernel
theorem dX1_codeOf_34 : decode cX1_codeOf 34 = .ok (.aload_n 0, 1) := by decide +kernel
theorem dX1_codeOf_35 : decode cX1_codeOf 35 = .ok (.iload_n 1, 1) := by decide +kernel
theorem dX1_codeOf_36 : decode cX1_codeOf 36 = .ok (.invokevirtual 34, 3) := by decide +kernel
theorem dX1_codeOf_39 : decode cX1_codeOf 39 = .ok (.aload_n 0, 1) := by decide +kernel
theorem dX1_codeOf_40 : decode cX1_codeOf 40 = .ok (.aload_n 0, 1) := by decide +kernel
theorem dX1_codeOf_41 : decode cX1_codeOf 41 = .ok (.getfield 19, 3) := by decide +kernel
theorem dX1_codeOf_44 : decode cX1_codeOf 44 = .ok (.iload_n 1, 1) := by decide +kernel
theorem dX1_codeOf_45 : decode cX1_codeOf 45 = .ok (.invokevirtual 38, 3) := by decide +kernel
theorem dX1_codeOf_48 : decode cX1_codeOf 48 = .ok (.aload_n 0, 1) := by decide +kernel
theorem dX1_codeOf_49 : decode cX1_codeOf 49 = .ok (.getfield 19, 3) := by decide +kernel
theorem dX1_codeOf_52 : decode cX1_codeOf 52 = .ok (.iload_n 1, 1) := by decide +kernel
theorem dX1_codeOf_53 : decode cX1_codeOf 53 = .ok (.iconst 4, 1) := by decide +kernel
theorem dX1_codeOf_54 : decode cX1_codeOf 54 = .ok (.imul, 1) := by decide +kernel
theorem dX1_codeOf_55 : decode cX1_codeOf 55 = .ok (.iload_n 2, 1) := by decide +kernel
theorem dX1_codeOf_56 : decode cX1_codeOf 56 = .ok (.iadd, 1) := by decide +kernel
theorem dX1_codeOf_57 : decode cX1_codeOf 57 = .ok (.iaload, 1) := by decide +kernel
theorem dX1_codeOf_58 : decode cX1_codeOf 58 = .ok (.ireturn, 1) := by decide +kernel
theorem dX1_filterOf_0 : decode cX1_filterOf 0 = .ok (.aload_n 0, 1) := by decide +kernel
theorem dX1_filterOf_1 : decode cX1_filterOf 1 = .ok (.getfield 9, 3) := by decide +kernel
theorem dX1_filterOf_4 : decode cX1_filterOf 4 = .ok (.iload_n 1, 1) := by decide +kernel
theorem dX1_filterOf_5 : decode cX1_filterOf 5 = .ok (.invokevirtual 41, 3) := by decide +kernel
theorem dX1_filterOf_8 : decode cX1_filterOf 8 = .ok (.ifCond .eq 12, 3) := by decide +kernel
theorem dX1_filterOf_11 : decode cX1_filterOf 11 = .ok (.iload_n 2, 1) := by decide +kernel
theorem dX1_filterOf_12 : decode cX1_filterOf 12 = .ok (.ifCond .lt 8, 3) := by decide +kernel
theorem dX1_filterOf_15 : decode cX1_filterOf 15 = .ok (.iload_n 2, 1) := by decide +kernel
theorem dX1_filterOf_16 : decode cX1_filterOf 16 = .ok (.iconst 4, 1) := by decide +kernel
theorem dX1_filterOf_17 : decode cX1_filterOf 17 = .ok (.if_icmp .lt 5, 3) := by decide +kernel
theorem dX1_filterOf_20 : decode cX1_filterOf 20 = .ok (.iconst (-1), 1) := by decide +kernel
theorem dX1_filterOf_21 : decode cX1_filterOf 21 = .ok (.ireturn, 1) := by decide +kernel
theorem dX1_filterOf_22 : decode cX1_filterOf 22 = .ok (.aload_n 0, 1) := by decide +kernel
theorem dX1_filterOf_23 : decode cX1_filterOf 23 = .ok (.getfield 25, 3) := by decide +kernel
theorem dX1_filterOf_26 : decode cX1_filterOf 26 = .ok (.iload_n 1, 1) := by decide +kernel
theorem dX1_filterOf_27 : decode cX1_filterOf 27 = .ok (.iconst 4, 1) := by decide +kernel
theorem dX1_filterOf_28 : decode cX1_filterOf 28 = .ok (.imul, 1) := by decide +kernel
theorem dX1_filterOf_29 : decode cX1_filterOf 29 = .ok (.iaload, 1) := by decide +kernel
theorem dX1_filterOf_30 : decode cX1_filterOf 30 = .ok (.iconst (-1), 1) := by decide +kernel
theorem dX1_filterOf_31 : decode cX1_filterOf 31 = .ok (.if_icmp .ne 17, 3) := by decide +kernel
theorem dX1_filterOf_34 : decode cX1_filterOf 34 = .ok (.aload_n 0, 1) := by decide +kernel
theorem dX1_filterOf_35 : decode cX1_filterOf 35 = .ok (.iload_n 1, 1) := by decide +kernel
theorem dX1_filterOf_36 : decode cX1_filterOf 36 = .ok (.invokevirtual 45, 3) := by decide +kernel
theorem dX1_filterOf_39 : decode cX1_filterOf 39 = .ok (.aload_n 0, 1) := by decide +kernel
theorem dX1_filterOf_40 : decode cX1_filterOf 40 = .ok (.aload_n 0, 1) := by decide +kernel
theorem dX1_filterOf_41 : decode cX1_filterOf 41 = .ok (.getfield 25, 3) := by decide +kernel
theorem dX1_filterOf_44 : decode cX1_filterOf 44 = .ok (.iload_n 1, 1) := by decide +kernel
theorem dX1_filterOf_45 : decode cX1_filterOf 45 = .ok (.invokevirtual 38, 3) := by decide +kernel
theorem dX1_filterOf_48 : decode cX1_filterOf 48 = .ok (.aload_n 0, 1) := by decide +kernel
theorem dX1_filterOf_49 : decode cX1_filterOf 49 = .ok (.getfield 25, 3) := by decide +kernel
theorem dX1_filterOf_52 : decode cX1_filterOf 52 = .ok (.iload_n 1, 1) := by decide +kernel
theorem dX1_filterOf_53 : decode cX1_filterOf 53 = .ok (.iconst 4, 1) := by decide +kernel
theorem dX1_filterOf_54 : decode cX1_filterOf 54 = .ok (.imul, 1) := by decide +kernel
theorem dX1_filterOf_55 : decode cX1_filterOf 55 = .ok (.iload_n 2, 1) := by decide +kernel
theorem dX1_filterOf_56 : decode cX1_filterOf 56 = .ok (.iadd, 1) := by decide +kernel
theorem dX1_filterOf_57 : decode cX1_filterOf 57 = .ok (.iaload, 1) := by decide +kernel
theorem dX1_filterOf_58 : decode cX1_filterOf 58 = .ok (.ireturn, 1) := by decide +kernel
theorem dX1_keepIn_0 : decode cX1_keepIn 0 = .ok (.iload_n 2, 1) := by decide +kernel
theorem dX1_keepIn_1 : decode cX1_keepIn 1 = .ok (.iconst 4, 1) := by decide +kernel
theorem dX1_keepIn_2 : decode cX1_keepIn 2 = .ok (.imul, 1) := by decide +kernel
theorem dX1_keepIn_3 : decode cX1_keepIn 3 = .ok (.istore_n 3, 1) := by decide +kernel
theorem dX1_keepIn_4 : decode cX1_keepIn 4 = .ok (.iload_n 3, 1) := by decide +kernel
theorem dX1_keepIn_5 : decode cX1_keepIn 5 = .ok (.ifCond .lt 45, 3) := by decide +kernel
theorem dX1_keepIn_8 : decode cX1_keepIn 8 = .ok (.iload_n 3, 1) := by decide +kernel
theorem dX1_keepIn_9 : decode cX1_keepIn 9 = .ok (.iconst 3, 1) := by decide +kernel
theorem dX1_keepIn_10 : decode cX1_keepIn 10 = .ok (.iadd, 1) := by decide +kernel
theorem dX1_keepIn_11 : decode cX1_keepIn 11 = .ok (.aload_n 1, 1) := by decide +kernel
theorem dX1_keepIn_12 : decode cX1_keepIn 12 = .ok (.arraylength, 1) := by decide +kernel
theorem dX1_keepIn_13 : decode cX1_keepIn 13 = .ok (.if_icmp .ge 37, 3) := by decide +kernel
theorem dX1_keepIn_16 : decode cX1_keepIn 16 = .ok (.aload_n 1, 1) := by decide +kernel
theorem dX1_keepIn_17 : decode cX1_keepIn 17 = .ok (.iload_n 3, 1) := by decide +kernel
theorem dX1_keepIn_18 : decode cX1_keepIn 18 = .ok (.aload_n 0, 1) := by decide +kernel
theorem dX1_keepIn_19 : decode cX1_keepIn 19 = .ok (.getfield 48, 3) := by decide +kernel
theorem dX1_keepIn_22 : decode cX1_keepIn 22 = .ok (.iastore, 1) := by decide +kernel
theorem dX1_keepIn_23 : decode cX1_keepIn 23 = .ok (.aload_n 1, 1) := by decide +kernel
theorem dX1_keepIn_24 : decode cX1_keepIn 24 = .ok (.iload_n 3, 1) := by decide +kernel
theorem dX1_keepIn_25 : decode cX1_keepIn 25 = .ok (.iconst 1, 1) := by decide +kernel
theorem dX1_keepIn_26 : decode cX1_keepIn 26 = .ok (.iadd, 1) := by decide +kernel
theorem dX1_keepIn_27 : decode cX1_keepIn 27 = .ok (.aload_n 0, 1) := by decide +kernel
theorem dX1_keepIn_28 : decode cX1_keepIn 28 = .ok (.getfield 52, 3) := by decide +kernel
theorem dX1_keepIn_31 : decode cX1_keepIn 31 = .ok (.iastore, 1) := by decide +kernel
theorem dX1_keepIn_32 : decode cX1_keepIn 32 = .ok (.aload_n 1, 1) := by decide +kernel
theorem dX1_keepIn_33 : decode cX1_keepIn 33 = .ok (.iload_n 3, 1) := by decide +kernel
theorem dX1_keepIn_34 : decode cX1_keepIn 34 = .ok (.iconst 2, 1) := by decide +kernel
theorem dX1_keepIn_35 : decode cX1_keepIn 35 = .ok (.iadd, 1) := by decide +kernel
theorem dX1_keepIn_36 : decode cX1_keepIn 36 = .ok (.aload_n 0, 1) := by decide +kernel
theorem dX1_keepIn_37 : decode cX1_keepIn 37 = .ok (.getfield 55, 3) := by decide +kernel
theorem dX1_keepIn_40 : decode cX1_keepIn 40 = .ok (.iastore, 1) := by decide +kernel
theorem dX1_keepIn_41 : decode cX1_keepIn 41 = .ok (.aload_n 1, 1) := by decide +kernel
theorem dX1_keepIn_42 : decode cX1_keepIn 42 = .ok (.iload_n 3, 1) := by decide +kernel
theorem dX1_keepIn_43 : decode cX1_keepIn 43 = .ok (.iconst 3, 1) := by decide +kernel
theorem dX1_keepIn_44 : decode cX1_keepIn 44 = .ok (.iadd, 1) := by decide +kernel
theorem dX1_keepIn_45 : decode cX1_keepIn 45 = .ok (.aload_n 0, 1) := by decide +kernel
theorem dX1_keepIn_46 : decode cX1_keepIn 46 = .ok (.getfield 58, 3) := by decide +kernel
theorem dX1_keepIn_49 : decode cX1_keepIn 49 = .ok (.iastore, 1) := by decide +kernel
theorem dX1_keepIn_50 : decode cX1_keepIn 50 = .ok (.return_, 1) := by decide +kernel
theorem dX1_findCode_0 : decode cX1_findCode 0 = .ok (.aload_n 0, 1) := by decide +kernel
theorem dX1_findCode_1 : decode cX1_findCode 1 = .ok (.ldc 61, 2) := by decide +kernel
theorem dX1_findCode_3 : decode cX1_findCode 3 = .ok (.putfield 52, 3) := by decide +kernel
theorem dX1_findCode_6 : decode cX1_findCode 6 = .ok (.iconst 0, 1) := by decide +kernel
theorem dX1_findCode_7 : decode cX1_findCode 7 = .ok (.istore_n 2, 1) := by decide +kernel
theorem dX1_findCode_8 : decode cX1_findCode 8 = .ok (.iload_n 2, 1) := by decide +kernel
theorem dX1_findCode_9 : decode cX1_findCode 9 = .ok (.iconst 1, 1) := by decide +kernel
theorem dX1_findCode_10 : decode cX1_findCode 10 = .ok (.iload_n 1, 1) := by decide +kernel
theorem dX1_findCode_11 : decode cX1_findCode 11 = .ok (.ishl, 1) := by decide +kernel
theorem dX1_findCode_12 : decode cX1_findCode 12 = .ok (.if_icmp .ge 15, 3) := by decide +kernel
theorem dX1_findCode_15 : decode cX1_findCode 15 = .ok (.aload_n 0, 1) := by decide +kernel
theorem dX1_findCode_16 : decode cX1_findCode 16 = .ok (.iload_n 2, 1) := by decide +kernel
theorem dX1_findCode_17 : decode cX1_findCode 17 = .ok (.iload_n 1, 1) := by decide +kernel
theorem dX1_findCode_18 : decode cX1_findCode 18 = .ok (.invokevirtual 62, 3) := by decide +kernel
theorem dX1_findCode_21 : decode cX1_findCode 21 = .ok (.iinc 2 1, 3) := by decide +kernel
theorem dX1_findCode_24 : decode cX1_findCode 24 = .ok (.goto (-16), 3) := by decide +kernel
theorem dX1_findCode_27 : decode cX1_findCode 27 = .ok (.return_, 1) := by decide +kernel
theorem dX1_tryCode_0 : decode cX1_tryCode 0 = .ok (.iconst 0, 1) := by decide +kernel
theorem dX1_tryCode_1 : decode cX1_tryCode 1 = .ok (.istore_n 3, 1) := by decide +kernel
theorem dX1_tryCode_2 : decode cX1_tryCode 2 = .ok (.iconst 0, 1) := by decide +kernel
theorem dX1_tryCode_3 : decode cX1_tryCode 3 = .ok (.istore 4, 2) := by decide +kernel
theorem dX1_tryCode_5 : decode cX1_tryCode 5 = .ok (.iconst 1, 1) := by decide +kernel
theorem dX1_tryCode_6 : decode cX1_tryCode 6 = .ok (.istore 5, 2) := by decide +kernel
theorem dX1_tryCode_8 : decode cX1_tryCode 8 = .ok (.iload 5, 2) := by decide +kernel
theorem dX1_tryCode_10 : decode cX1_tryCode 10 = .ok (.iload_n 2, 1) := by decide +kernel
theorem dX1_tryCode_11 : decode cX1_tryCode 11 = .ok (.if_icmp .ge 70, 3) := by decide +kernel
theorem dX1_tryCode_14 : decode cX1_tryCode 14 = .ok (.iload_n 3, 1) := by decide +kernel
theorem dX1_tryCode_15 : decode cX1_tryCode 15 = .ok (.aload_n 0, 1) := by decide +kernel
theorem dX1_tryCode_16 : decode cX1_tryCode 16 = .ok (.getfield 52, 3) := by decide +kernel
theorem dX1_tryCode_19 : decode cX1_tryCode 19 = .ok (.if_icmp .gt 62, 3) := by decide +kernel
theorem dX1_tryCode_22 : decode cX1_tryCode 22 = .ok (.iload_n 1, 1) := by decide +kernel
theorem dX1_tryCode_23 : decode cX1_tryCode 23 = .ok (.iload_n 1, 1) := by decide +kernel
theorem dX1_tryCode_24 : decode cX1_tryCode 24 = .ok (.iload 5, 2) := by decide +kernel
theorem dX1_tryCode_26 : decode cX1_tryCode 26 = .ok (.ishr, 1) := by decide +kernel
theorem dX1_tryCode_27 : decode cX1_tryCode 27 = .ok (.ixor, 1) := by decide +kernel
theorem dX1_tryCode_28 : decode cX1_tryCode 28 = .ok (.iconst 1, 1) := by decide +kernel
theorem dX1_tryCode_29 : decode cX1_tryCode 29 = .ok (.iload_n 2, 1) := by decide +kernel
theorem dX1_tryCode_30 : decode cX1_tryCode 30 = .ok (.iload 5, 2) := by decide +kernel
theorem dX1_tryCode_32 : decode cX1_tryCode 32 = .ok (.isub, 1) := by decide +kernel
theorem dX1_tryCode_33 : decode cX1_tryCode 33 = .ok (.ishl, 1) := by decide +kernel
theorem dX1_tryCode_34 : decode cX1_tryCode 34 = .ok (.iconst 1, 1) := by decide +kernel
theorem dX1_tryCode_35 : decode cX1_tryCode 35 = .ok (.isub, 1) := by decide +kernel
theorem dX1_tryCode_36 : decode cX1_tryCode 36 = .ok (.iand, 1) := by decide +kernel
theorem dX1_tryCode_37 : decode cX1_tryCode 37 = .ok (.invokestatic 66, 3) := by decide +kernel
theorem dX1_tryCode_40 : decode cX1_tryCode 40 = .ok (.istore 6, 2) := by decide +kernel
theorem dX1_tryCode_42 : decode cX1_tryCode 42 = .ok (.iload_n 2, 1) := by decide +kernel
theorem dX1_tryCode_43 : decode cX1_tryCode 43 = .ok (.iload 5, 2) := by decide +kernel
theorem dX1_tryCode_45 : decode cX1_tryCode 45 = .ok (.isub, 1) := by decide +kernel
theorem dX1_tryCode_46 : decode cX1_tryCode 46 = .ok (.iconst 2, 1) := by decide +kernel
theorem dX1_tryCode_47 : decode cX1_tryCode 47 = .ok (.iload 6, 2) := by decide +kernel
theorem dX1_tryCode_49 : decode cX1_tryCode 49 = .ok (.imul, 1) := by decide +kernel
theorem dX1_tryCode_50 : decode cX1_tryCode 50 = .ok (.isub, 1) := by decide +kernel
theorem dX1_tryCode_51 : decode cX1_tryCode 51 = .ok (.istore 7, 2) := by decide +kernel
theorem dX1_tryCode_53 : decode cX1_tryCode 53 = .ok (.iload_n 3, 1) := by decide +kernel
theorem dX1_tryCode_54 : decode cX1_tryCode 54 = .ok (.iload 7, 2) := by decide +kernel
theorem dX1_tryCode_56 : decode cX1_tryCode 56 = .ok (.iload 7, 2) := by decide +kernel
theorem dX1_tryCode_58 : decode cX1_tryCode 58 = .ok (.imul, 1) := by decide +kernel
theorem dX1_tryCode_59 : decode cX1_tryCode 59 = .ok (.invokestatic 72, 3) := by decide +kernel
theorem dX1_tryCode_62 : decode cX1_tryCode 62 = .ok (.istore_n 3, 1) := by decide +kernel
theorem dX1_tryCode_63 : decode cX1_tryCode 63 = .ok (.iload 4, 2) := by decide +kernel
theorem dX1_tryCode_65 : decode cX1_tryCode 65 = .ok (.iconst 2, 1) := by decide +kernel
theorem dX1_tryCode_66 : decode cX1_tryCode 66 = .ok (.iload 7, 2) := by decide +kernel
theorem dX1_tryCode_68 : decode cX1_tryCode 68 = .ok (.imul, 1) := by decide +kernel
theorem dX1_tryCode_69 : decode cX1_tryCode 69 = .ok (.iload 7, 2) := by decide +kernel
theorem dX1_tryCode_71 : decode cX1_tryCode 71 = .ok (.imul, 1) := by decide +kernel
theorem dX1_tryCode_72 : decode cX1_tryCode 72 = .ok (.iadd, 1) := by decide +kernel
theorem dX1_tryCode_73 : decode cX1_tryCode 73 = .ok (.istore 4, 2) := by decide +kernel
theorem dX1_tryCode_75 : decode cX1_tryCode 75 = .ok (.iinc 5 1, 3) := by decide +kernel
theorem dX1_tryCode_78 : decode cX1_tryCode 78 = .ok (.goto (-70), 3) := by decide +kernel
theorem dX1_tryCode_81 : decode cX1_tryCode 81 = .ok (.iload_n 3, 1) := by decide +kernel
theorem dX1_tryCode_82 : decode cX1_tryCode 82 = .ok (.aload_n 0, 1) := by decide +kernel
theorem dX1_tryCode_83 : decode cX1_tryCode 83 = .ok (.getfield 52, 3) := by decide +kernel
theorem dX1_tryCode_86 : decode cX1_tryCode 86 = .ok (.if_icmp .le 4, 3) := by decide +kernel
theorem dX1_tryCode_89 : decode cX1_tryCode 89 = .ok (.return_, 1) := by decide +kernel
theorem dX1_tryCode_90 : decode cX1_tryCode 90 = .ok (.iload_n 3, 1) := by decide +kernel
theorem dX1_tryCode_91 : decode cX1_tryCode 91 = .ok (.aload_n 0, 1) := by decide +kernel
theorem dX1_tryCode_92 : decode cX1_tryCode 92 = .ok (.getfield 52, 3) := by decide +kernel
theorem dX1_tryCode_95 : decode cX1_tryCode 95 = .ok (.if_icmp .ge 19, 3) := by decide +kernel
theorem dX1_tryCode_98 : decode cX1_tryCode 98 = .ok (.aload_n 0, 1) := by decide +kernel
theorem dX1_tryCode_99 : decode cX1_tryCode 99 = .ok (.iload_n 3, 1) := by decide +kernel
theorem dX1_tryCode_100 : decode cX1_tryCode 100 = .ok (.putfield 52, 3) := by decide +kernel
theorem dX1_tryCode_103 : decode cX1_tryCode 103 = .ok (.aload_n 0, 1) := by decide +kernel
theorem dX1_tryCode_104 : decode cX1_tryCode 104 = .ok (.ldc 61, 2) := by decide +kernel
theorem dX1_tryCode_106 : decode cX1_tryCode 106 = .ok (.putfield 55, 3) := by decide +kernel
theorem dX1_tryCode_109 : decode cX1_tryCode 109 = .ok (.aload_n 0, 1) := by decide +kernel
theorem dX1_tryCode_110 : decode cX1_tryCode 110 = .ok (.iconst 0, 1) := by decide +kernel
theorem dX1_tryCode_111 : decode cX1_tryCode 111 = .ok (.putfield 58, 3) := by decide +kernel
theorem dX1_tryCode_114 : decode cX1_tryCode 114 = .ok (.aload_n 0, 1) := by decide +kernel
theorem dX1_tryCode_115 : decode cX1_tryCode 115 = .ok (.dup, 1) := by decide +kernel
theorem dX1_tryCode_116 : decode cX1_tryCode 116 = .ok (.getfield 58, 3) := by decide +kernel
theorem dX1_tryCode_119 : decode cX1_tryCode 119 = .ok (.iconst 1, 1) := by decide +kernel
theorem dX1_tryCode_120 : decode cX1_tryCode 120 = .ok (.iadd, 1) := by decide +kernel
theorem dX1_tryCode_121 : decode cX1_tryCode 121 = .ok (.putfield 58, 3) := by decide +kernel
theorem dX1_tryCode_124 : decode cX1_tryCode 124 = .ok (.iload 4, 2) := by decide +kernel
theorem dX1_tryCode_126 : decode cX1_tryCode 126 = .ok (.aload_n 0, 1) := by decide +kernel
theorem dX1_tryCode_127 : decode cX1_tryCode 127 = .ok (.getfield 55, 3) := by decide +kernel
theorem dX1_tryCode_130 : decode cX1_tryCode 130 = .ok (.if_icmp .ge 14, 3) := by decide +kernel
theorem dX1_tryCode_133 : decode cX1_tryCode 133 = .ok (.aload_n 0, 1) := by decide +kernel
theorem dX1_tryCode_134 : decode cX1_tryCode 134 = .ok (.iload_n 1, 1) := by decide +kernel
theorem dX1_tryCode_135 : decode cX1_tryCode 135 = .ok (.putfield 48, 3) := by decide +kernel
theorem dX1_tryCode_138 : decode cX1_tryCode 138 = .ok (.aload_n 0, 1) := by decide +kernel
theorem dX1_tryCode_139 : decode cX1_tryCode 139 = .ok (.iload 4, 2) := by decide +kernel
theorem dX1_tryCode_141 : decode cX1_tryCode 141 = .ok (.putfield 55, 3) := by decide +kernel
theorem dX1_tryCode_144 : decode cX1_tryCode 144 = .ok (.return_, 1) := by decide +kernel
theorem dX1_findFilter_0 : decode cX1_findFilter 0 = .ok (.iconst 1, 1) := by decide +kernel
theorem dX1_findFilter_1 : decode cX1_findFilter 1 = .ok (.istore_n 2, 1) := by decide +kernel
theorem dX1_findFilter_2 : decode cX1_findFilter 2 = .ok (.iconst 0, 1) := by decide +kernel
theorem dX1_findFilter_3 : decode cX1_findFilter 3 = .ok (.istore_n 3, 1) := by decide +kernel
theorem dX1_findFilter_4 : decode cX1_findFilter 4 = .ok (.iload_n 3, 1) := by decide +kernel
theorem dX1_findFilter_5 : decode cX1_findFilter 5 = .ok (.aload_n 0, 1) := by decide +kernel
theorem dX1_findFilter_6 : decode cX1_findFilter 6 = .ok (.getfield 9, 3) := by decide +kernel
theorem dX1_findFilter_9 : decode cX1_findFilter 9 = .ok (.iload_n 1, 1) := by decide +kernel
theorem dX1_findFilter_10 : decode cX1_findFilter 10 = .ok (.invokevirtual 78, 3) := by decide +kernel
theorem dX1_findFilter_13 : decode cX1_findFilter 13 = .ok (.if_icmp .ge 13, 3) := by decide +kernel
theorem dX1_findFilter_16 : decode cX1_findFilter 16 = .ok (.iload_n 2, 1) := by decide +kernel
theorem dX1_findFilter_17 : decode cX1_findFilter 17 = .ok (.iconst 5, 1) := by decide +kernel
theorem dX1_findFilter_18 : decode cX1_findFilter 18 = .ok (.imul, 1) := by decide +kernel
theorem dX1_findFilter_19 : decode cX1_findFilter 19 = .ok (.istore_n 2, 1) := by decide +kernel
theorem dX1_findFilter_20 : decode cX1_findFilter 20 = .ok (.iinc 3 1, 3) := by decide +kernel
theorem dX1_findFilter_23 : decode cX1_findFilter 23 = .ok (.goto (-19), 3) := by decide +kernel
theorem dX1_findFilter_26 : decode cX1_findFilter 26 = .ok (.aload_n 0, 1) := by decide +kernel
theorem dX1_findFilter_27 : decode cX1_findFilter 27 = .ok (.iconst (-1), 1) := by decide +kernel
theorem dX1_findFilter_28 : decode cX1_findFilter 28 = .ok (.putfield 48, 3) := by decide +kernel
theorem dX1_findFilter_31 : decode cX1_findFilter 31 = .ok (.aload_n 0, 1) := by decide +kernel
theorem dX1_findFilter_32 : decode cX1_findFilter 32 = .ok (.ldc 61, 2) := by decide +kernel
theorem dX1_findFilter_34 : decode cX1_findFilter 34 = .ok (.putfield 52, 3) := by decide +kernel
theorem dX1_findFilter_37 : decode cX1_findFilter 37 = .ok (.aload_n 0, 1) := by decide +kernel
theorem dX1_findFilter_38 : decode cX1_findFilter 38 = .ok (.iconst 1, 1) := by decide +kernel
theorem dX1_findFilter_39 : decode cX1_findFilter 39 = .ok (.putfield 55, 3) := by decide +kernel
theorem dX1_findFilter_42 : decode cX1_findFilter 42 = .ok (.aload_n 0, 1) := by decide +kernel
theorem dX1_findFilter_43 : decode cX1_findFilter 43 = .ok (.iconst 0, 1) := by decide +kernel
theorem dX1_findFilter_44 : decode cX1_findFilter 44 = .ok (.putfield 58, 3) := by decide +kernel
theorem dX1_findFilter_47 : decode cX1_findFilter 47 = .ok (.iconst 0, 1) := by decide +kernel
theorem dX1_findFilter_48 : decode cX1_findFilter 48 = .ok (.istore_n 3, 1) := by decide +kernel
theorem dX1_findFilter_49 : decode cX1_findFilter 49 = .ok (.iload_n 3, 1) := by decide +kernel
theorem dX1_findFilter_50 : decode cX1_findFilter 50 = .ok (.iload_n 2, 1) := by decide +kernel
theorem dX1_findFilter_51 : decode cX1_findFilter 51 = .ok (.iconst 2, 1) := by decide +kernel
theorem dX1_findFilter_52 : decode cX1_findFilter 52 = .ok (.idiv, 1) := by decide +kernel
theorem dX1_findFilter_53 : decode cX1_findFilter 53 = .ok (.if_icmp .ge 15, 3) := by decide +kernel
theorem dX1_findFilter_56 : decode cX1_findFilter 56 = .ok (.aload_n 0, 1) := by decide +kernel
theorem dX1_findFilter_57 : decode cX1_findFilter 57 = .ok (.iload_n 1, 1) := by decide +kernel
theorem dX1_findFilter_58 : decode cX1_findFilter 58 = .ok (.iload_n 3, 1) := by decide +kernel
theorem dX1_findFilter_59 : decode cX1_findFilter 59 = .ok (.invokevirtual 81, 3) := by decide +kernel
theorem dX1_findFilter_62 : decode cX1_findFilter 62 = .ok (.iinc 3 1, 3) := by decide +kernel
theorem dX1_findFilter_65 : decode cX1_findFilter 65 = .ok (.goto (-16), 3) := by decide +kernel
theorem dX1_findFilter_68 : decode cX1_findFilter 68 = .ok (.return_, 1) := by decide +kernel
theorem dX1_tryFilter_0 : decode cX1_tryFilter 0 = .ok (.aload_n 0, 1) := by decide +kernel
theorem dX1_tryFilter_1 : decode cX1_tryFilter 1 = .ok (.iload_n 1, 1) := by decide +kernel
theorem dX1_tryFilter_2 : decode cX1_tryFilter 2 = .ok (.iload_n 2, 1) := by decide +kernel
theorem dX1_tryFilter_3 : decode cX1_tryFilter 3 = .ok (.invokevirtual 84, 3) := by decide +kernel
theorem dX1_tryFilter_6 : decode cX1_tryFilter 6 = .ok (.istore_n 3, 1) := by decide +kernel
theorem dX1_tryFilter_7 : decode cX1_tryFilter 7 = .ok (.iload_n 3, 1) := by decide +kernel
theorem dX1_tryFilter_8 : decode cX1_tryFilter 8 = .ok (.ifCond .ne 4, 3) := by decide +kernel
theorem dX1_tryFilter_11 : decode cX1_tryFilter 11 = .ok (.return_, 1) := by decide +kernel
theorem dX1_tryFilter_12 : decode cX1_tryFilter 12 = .ok (.iconst 0, 1) := by decide +kernel
theorem dX1_tryFilter_13 : decode cX1_tryFilter 13 = .ok (.istore 4, 2) := by decide +kernel
theorem dX1_tryFilter_15 : decode cX1_tryFilter 15 = .ok (.iconst 1, 1) := by decide +kernel
theorem dX1_tryFilter_16 : decode cX1_tryFilter 16 = .ok (.istore 5, 2) := by decide +kernel
theorem dX1_tryFilter_18 : decode cX1_tryFilter 18 = .ok (.iload 5, 2) := by decide +kernel
theorem dX1_tryFilter_20 : decode cX1_tryFilter 20 = .ok (.aload_n 0, 1) := by decide +kernel
theorem dX1_tryFilter_21 : decode cX1_tryFilter 21 = .ok (.getfield 9, 3) := by decide +kernel
theorem dX1_tryFilter_24 : decode cX1_tryFilter 24 = .ok (.iload_n 1, 1) := by decide +kernel
theorem dX1_tryFilter_25 : decode cX1_tryFilter 25 = .ok (.invokevirtual 78, 3) := by decide +kernel
theorem dX1_tryFilter_28 : decode cX1_tryFilter 28 = .ok (.if_icmp .ge 64, 3) := by decide +kernel
theorem dX1_tryFilter_31 : decode cX1_tryFilter 31 = .ok (.iload 4, 2) := by decide +kernel
theorem dX1_tryFilter_33 : decode cX1_tryFilter 33 = .ok (.aload_n 0, 1) := by decide +kernel
theorem dX1_tryFilter_34 : decode cX1_tryFilter 34 = .ok (.getfield 55, 3) := by decide +kernel
theorem dX1_tryFilter_37 : decode cX1_tryFilter 37 = .ok (.imul, 1) := by decide +kernel
theorem dX1_tryFilter_38 : decode cX1_tryFilter 38 = .ok (.aload_n 0, 1) := by decide +kernel
theorem dX1_tryFilter_39 : decode cX1_tryFilter 39 = .ok (.getfield 52, 3) := by decide +kernel
theorem dX1_tryFilter_42 : decode cX1_tryFilter 42 = .ok (.iload_n 3, 1) := by decide +kernel
theorem dX1_tryFilter_43 : decode cX1_tryFilter 43 = .ok (.imul, 1) := by decide +kernel
theorem dX1_tryFilter_44 : decode cX1_tryFilter 44 = .ok (.if_icmp .gt 48, 3) := by decide +kernel
theorem dX1_tryFilter_47 : decode cX1_tryFilter 47 = .ok (.iload 4, 2) := by decide +kernel
theorem dX1_tryFilter_49 : decode cX1_tryFilter 49 = .ok (.aload_n 0, 1) := by decide +kernel
theorem dX1_tryFilter_50 : decode cX1_tryFilter 50 = .ok (.getfield 15, 3) := by decide +kernel
theorem dX1_tryFilter_53 : decode cX1_tryFilter 53 = .ok (.iload_n 1, 1) := by decide +kernel
theorem dX1_tryFilter_54 : decode cX1_tryFilter 54 = .ok (.iload_n 1, 1) := by decide +kernel
theorem dX1_tryFilter_55 : decode cX1_tryFilter 55 = .ok (.iload 5, 2) := by decide +kernel
theorem dX1_tryFilter_57 : decode cX1_tryFilter 57 = .ok (.iconst 0, 1) := by decide +kernel
theorem dX1_tryFilter_58 : decode cX1_tryFilter 58 = .ok (.invokevirtual 87, 3) := by decide +kernel
theorem dX1_tryFilter_61 : decode cX1_tryFilter 61 = .ok (.invokestatic 72, 3) := by decide +kernel
theorem dX1_tryFilter_64 : decode cX1_tryFilter 64 = .ok (.istore 4, 2) := by decide +kernel
theorem dX1_tryFilter_66 : decode cX1_tryFilter 66 = .ok (.iload 4, 2) := by decide +kernel
theorem dX1_tryFilter_68 : decode cX1_tryFilter 68 = .ok (.aload_n 0, 1) := by decide +kernel
theorem dX1_tryFilter_69 : decode cX1_tryFilter 69 = .ok (.getfield 15, 3) := by decide +kernel
theorem dX1_tryFilter_72 : decode cX1_tryFilter 72 = .ok (.iload_n 1, 1) := by decide +kernel
theorem dX1_tryFilter_73 : decode cX1_tryFilter 73 = .ok (.iload_n 1, 1) := by decide +kernel
theorem dX1_tryFilter_74 : decode cX1_tryFilter 74 = .ok (.iload 5, 2) := by decide +kernel
theorem dX1_tryFilter_76 : decode cX1_tryFilter 76 = .ok (.ineg, 1) := by decide +kernel
theorem dX1_tryFilter_77 : decode cX1_tryFilter 77 = .ok (.iconst 0, 1) := by decide +kernel
theorem dX1_tryFilter_78 : decode cX1_tryFilter 78 = .ok (.invokevirtual 87, 3) := by decide +kernel
theorem dX1_tryFilter_81 : decode cX1_tryFilter 81 = .ok (.invokestatic 72, 3) := by decide +kernel
theorem dX1_tryFilter_84 : decode cX1_tryFilter 84 = .ok (.istore 4, 2) := by decide +kernel
theorem dX1_tryFilter_86 : decode cX1_tryFilter 86 = .ok (.iinc 5 1, 3) := by decide +kernel
theorem dX1_tryFilter_89 : decode cX1_tryFilter 89 = .ok (.goto (-71), 3) := by decide +kernel
theorem dX1_tryFilter_92 : decode cX1_tryFilter 92 = .ok (.iload 4, 2) := by decide +kernel
theorem dX1_tryFilter_94 : decode cX1_tryFilter 94 = .ok (.aload_n 0, 1) := by decide +kernel
theorem dX1_tryFilter_95 : decode cX1_tryFilter 95 = .ok (.getfield 55, 3) := by decide +kernel
theorem dX1_tryFilter_98 : decode cX1_tryFilter 98 = .ok (.imul, 1) := by decide +kernel
theorem dX1_tryFilter_99 : decode cX1_tryFilter 99 = .ok (.aload_n 0, 1) := by decide +kernel
theorem dX1_tryFilter_100 : decode cX1_tryFilter 100 = .ok (.getfield 52, 3) := by decide +kernel
theorem dX1_tryFilter_103 : decode cX1_tryFilter 103 = .ok (.iload_n 3, 1) := by decide +kernel
theorem dX1_tryFilter_104 : decode cX1_tryFilter 104 = .ok (.imul, 1) := by decide +kernel
theorem dX1_tryFilter_105 : decode cX1_tryFilter 105 = .ok (.isub, 1) := by decide +kernel
theorem dX1_tryFilter_106 : decode cX1_tryFilter 106 = .ok (.istore 5, 2) := by decide +kernel
theorem dX1_tryFilter_108 : decode cX1_tryFilter 108 = .ok (.iload 5, 2) := by decide +kernel
theorem dX1_tryFilter_110 : decode cX1_tryFilter 110 = .ok (.ifCond .le 4, 3) := by decide +kernel
theorem dX1_tryFilter_113 : decode cX1_tryFilter 113 = .ok (.return_, 1) := by decide +kernel
theorem dX1_tryFilter_114 : decode cX1_tryFilter 114 = .ok (.aload_n 0, 1) := by decide +kernel
theorem dX1_tryFilter_115 : decode cX1_tryFilter 115 = .ok (.getfield 15, 3) := by decide +kernel
theorem dX1_tryFilter_118 : decode cX1_tryFilter 118 = .ok (.iload_n 1, 1) := by decide +kernel
theorem dX1_tryFilter_119 : decode cX1_tryFilter 119 = .ok (.iload_n 3, 1) := by decide +kernel
theorem dX1_tryFilter_120 : decode cX1_tryFilter 120 = .ok (.invokevirtual 93, 3) := by decide +kernel
theorem dX1_tryFilter_123 : decode cX1_tryFilter 123 = .ok (.istore 6, 2) := by decide +kernel
theorem dX1_tryFilter_125 : decode cX1_tryFilter 125 = .ok (.iload 5, 2) := by decide +kernel
theorem dX1_tryFilter_127 : decode cX1_tryFilter 127 = .ok (.ifCond .lt 12, 3) := by decide +kernel
theorem dX1_tryFilter_130 : decode cX1_tryFilter 130 = .ok (.iload 6, 2) := by decide +kernel
theorem dX1_tryFilter_132 : decode cX1_tryFilter 132 = .ok (.aload_n 0, 1) := by decide +kernel
theorem dX1_tryFilter_133 : decode cX1_tryFilter 133 = .ok (.getfield 58, 3) := by decide +kernel
theorem dX1_tryFilter_136 : decode cX1_tryFilter 136 = .ok (.if_icmp .le 25, 3) := by decide +kernel
theorem dX1_tryFilter_139 : decode cX1_tryFilter 139 = .ok (.aload_n 0, 1) := by decide +kernel
theorem dX1_tryFilter_140 : decode cX1_tryFilter 140 = .ok (.iload_n 2, 1) := by decide +kernel
theorem dX1_tryFilter_141 : decode cX1_tryFilter 141 = .ok (.putfield 48, 3) := by decide +kernel
theorem dX1_tryFilter_144 : decode cX1_tryFilter 144 = .ok (.aload_n 0, 1) := by decide +kernel
theorem dX1_tryFilter_145 : decode cX1_tryFilter 145 = .ok (.iload 4, 2) := by decide +kernel
theorem dX1_tryFilter_147 : decode cX1_tryFilter 147 = .ok (.putfield 52, 3) := by decide +kernel
theorem dX1_tryFilter_150 : decode cX1_tryFilter 150 = .ok (.aload_n 0, 1) := by decide +kernel
theorem dX1_tryFilter_151 : decode cX1_tryFilter 151 = .ok (.iload_n 3, 1) := by decide +kernel
theorem dX1_tryFilter_152 : decode cX1_tryFilter 152 = .ok (.putfield 55, 3) := by decide +kernel
theorem dX1_tryFilter_155 : decode cX1_tryFilter 155 = .ok (.aload_n 0, 1) := by decide +kernel
theorem dX1_tryFilter_156 : decode cX1_tryFilter 156 = .ok (.iload 6, 2) := by decide +kernel
theorem dX1_tryFilter_158 : decode cX1_tryFilter 158 = .ok (.putfield 58, 3) := by decide +kernel
theorem dX1_tryFilter_161 : decode cX1_tryFilter 161 = .ok (.return_, 1) := by decide +kernel
theorem dX1_tellFilter_0 : decode cX1_tellFilter 0 = .ok (.iload_n 2, 1) := by decide +kernel
theorem dX1_tellFilter_1 : decode cX1_tellFilter 1 = .ok (.istore_n 3, 1) := by decide +kernel
theorem dX1_tellFilter_2 : decode cX1_tellFilter 2 = .ok (.iconst 0, 1) := by decide +kernel
theorem dX1_tellFilter_3 : decode cX1_tellFilter 3 = .ok (.istore 4, 2) := by decide +kernel
theorem dX1_tellFilter_5 : decode cX1_tellFilter 5 = .ok (.aload_n 0, 1) := by decide +kernel
theorem dX1_tellFilter_6 : decode cX1_tellFilter 6 = .ok (.getfield 9, 3) := by decide +kernel
theorem dX1_tellFilter_9 : decode cX1_tellFilter 9 = .ok (.iload_n 1, 1) := by decide +kernel
theorem dX1_tellFilter_10 : decode cX1_tellFilter 10 = .ok (.invokevirtual 78, 3) := by decide +kernel
theorem dX1_tellFilter_13 : decode cX1_tellFilter 13 = .ok (.bipush 6, 2) := by decide +kernel
theorem dX1_tellFilter_15 : decode cX1_tellFilter 15 = .ok (.invokestatic 96, 3) := by decide +kernel
theorem dX1_tellFilter_18 : decode cX1_tellFilter 18 = .ok (.iconst 1, 1) := by decide +kernel
theorem dX1_tellFilter_19 : decode cX1_tellFilter 19 = .ok (.isub, 1) := by decide +kernel
theorem dX1_tellFilter_20 : decode cX1_tellFilter 20 = .ok (.istore 5, 2) := by decide +kernel
theorem dX1_tellFilter_22 : decode cX1_tellFilter 22 = .ok (.iload 5, 2) := by decide +kernel
theorem dX1_tellFilter_24 : decode cX1_tellFilter 24 = .ok (.ifCond .lt 39, 3) := by decide +kernel
theorem dX1_tellFilter_27 : decode cX1_tellFilter 27 = .ok (.iload_n 3, 1) := by decide +kernel
theorem dX1_tellFilter_28 : decode cX1_tellFilter 28 = .ok (.iconst 5, 1) := by decide +kernel
theorem dX1_tellFilter_29 : decode cX1_tellFilter 29 = .ok (.irem, 1) := by decide +kernel
theorem dX1_tellFilter_30 : decode cX1_tellFilter 30 = .ok (.iconst 2, 1) := by decide +kernel
theorem dX1_tellFilter_31 : decode cX1_tellFilter 31 = .ok (.isub, 1) := by decide +kernel
theorem dX1_tellFilter_32 : decode cX1_tellFilter 32 = .ok (.istore 6, 2) := by decide +kernel
theorem dX1_tellFilter_34 : decode cX1_tellFilter 34 = .ok (.iload_n 3, 1) := by decide +kernel
theorem dX1_tellFilter_35 : decode cX1_tellFilter 35 = .ok (.iconst 5, 1) := by decide +kernel
theorem dX1_tellFilter_36 : decode cX1_tellFilter 36 = .ok (.idiv, 1) := by decide +kernel
theorem dX1_tellFilter_37 : decode cX1_tellFilter 37 = .ok (.istore_n 3, 1) := by decide +kernel
theorem dX1_tellFilter_38 : decode cX1_tellFilter 38 = .ok (.iload 4, 2) := by decide +kernel
theorem dX1_tellFilter_40 : decode cX1_tellFilter 40 = .ok (.iload 6, 2) := by decide +kernel
theorem dX1_tellFilter_42 : decode cX1_tellFilter 42 = .ok (.iadd, 1) := by decide +kernel
theorem dX1_tellFilter_43 : decode cX1_tellFilter 43 = .ok (.istore 4, 2) := by decide +kernel
theorem dX1_tellFilter_45 : decode cX1_tellFilter 45 = .ok (.aload_n 0, 1) := by decide +kernel
theorem dX1_tellFilter_46 : decode cX1_tellFilter 46 = .ok (.getfield 15, 3) := by decide +kernel
theorem dX1_tellFilter_49 : decode cX1_tellFilter 49 = .ok (.getfield 99, 3) := by decide +kernel
theorem dX1_tellFilter_52 : decode cX1_tellFilter 52 = .ok (.iload 5, 2) := by decide +kernel
theorem dX1_tellFilter_54 : decode cX1_tellFilter 54 = .ok (.iload 6, 2) := by decide +kernel
theorem dX1_tellFilter_56 : decode cX1_tellFilter 56 = .ok (.iastore, 1) := by decide +kernel
theorem dX1_tellFilter_57 : decode cX1_tellFilter 57 = .ok (.iinc 5 (-1), 3) := by decide +kernel
theorem dX1_tellFilter_60 : decode cX1_tellFilter 60 = .ok (.goto (-38), 3) := by decide +kernel
theorem dX1_tellFilter_63 : decode cX1_tellFilter 63 = .ok (.iload 4, 2) := by decide +kernel
theorem dX1_tellFilter_65 : decode cX1_tellFilter 65 = .ok (.iload 4, 2) := by decide +kernel
theorem dX1_tellFilter_67 : decode cX1_tellFilter 67 = .ok (.imul, 1) := by decide +kernel
theorem dX1_tellFilter_68 : decode cX1_tellFilter 68 = .ok (.ireturn, 1) := by decide +kernel
theorem dX2_init_0 : decode cX2_init 0 = .ok (.aload_n 0, 1) := by decide +kernel
theorem dX2_init_1 : decode cX2_init 1 = .ok (.invokespecial 5, 3) := by decide +kernel
theorem dX2_init_4 : decode cX2_init 4 = .ok (.aload_n 0, 1) := by decide +kernel
theorem dX2_init_5 : decode cX2_init 5 = .ok (.sipush 1240, 3) := by decide +kernel
theorem dX2_init_8 : decode cX2_init 8 = .ok (.newarray .int, 2) := by decide +kernel
theorem dX2_init_10 : decode cX2_init 10 = .ok (.putfield 11, 3) := by decide +kernel
theorem dX2_init_13 : decode cX2_init 13 = .ok (.aload_n 0, 1) := by decide +kernel
theorem dX2_init_14 : decode cX2_init 14 = .ok (.bipush 31, 2) := by decide +kernel
theorem dX2_init_16 : decode cX2_init 16 = .ok (.newarray .int, 2) := by decide +kernel
theorem dX2_init_18 : decode cX2_init 18 = .ok (.putfield 15, 3) := by decide +kernel
theorem dX2_init_21 : decode cX2_init 21 = .ok (.aload_n 0, 1) := by decide +kernel
theorem dX2_init_22 : decode cX2_init 22 = .ok (.bipush 40, 2) := by decide +kernel
theorem dX2_init_24 : decode cX2_init 24 = .ok (.newarray .int, 2) := by decide +kernel
theorem dX2_init_26 : decode cX2_init 26 = .ok (.putfield 18, 3) := by decide +kernel
theorem dX2_init_29 : decode cX2_init 29 = .ok (.aload_n 0, 1) := by decide +kernel
theorem dX2_init_30 : decode cX2_init 30 = .ok (.iconst (-1), 1) := by decide +kernel
theorem dX2_init_31 : decode cX2_init 31 = .ok (.putfield 21, 3) := by decide +kernel
theorem dX2_init_34 : decode cX2_init 34 = .ok (.return_, 1) := by decide +kernel
theorem dX2_isValue_0 : decode cX2_isValue 0 = .ok (.iload_n 0, 1) := by decide +kernel
theorem dX2_isValue_1 : decode cX2_isValue 1 = .ok (.ifCond .lt 14, 3) := by decide +kernel
theorem dX2_isValue_4 : decode cX2_isValue 4 = .ok (.iload_n 0, 1) := by decide +kernel
theorem dX2_isValue_5 : decode cX2_isValue 5 = .ok (.sipush 999, 3) := by decide +kernel
theorem dX2_isValue_8 : decode cX2_isValue 8 = .ok (.if_icmp .gt 7, 3) := by decide +kernel
theorem dX2_isValue_11 : decode cX2_isValue 11 = .ok (.iconst 1, 1) := by decide +kernel
theorem dX2_isValue_12 : decode cX2_isValue 12 = .ok (.goto 4, 3) := by decide +kernel
theorem dX2_isValue_15 : decode cX2_isValue 15 = .ok (.iconst 0, 1) := by decide +kernel
theorem dX2_isValue_16 : decode cX2_isValue 16 = .ok (.ireturn, 1) := by decide +kernel
theorem dX2_size_0 : decode cX2_size 0 = .ok (.aload_n 0, 1) := by decide +kernel
theorem dX2_size_1 : decode cX2_size 1 = .ok (.getfield 25, 3) := by decide +kernel
theorem dX2_size_4 : decode cX2_size 4 = .ok (.ifCond .lt 24, 3) := by decide +kernel
theorem dX2_size_7 : decode cX2_size 7 = .ok (.aload_n 0, 1) := by decide +kernel
theorem dX2_size_8 : decode cX2_size 8 = .ok (.getfield 25, 3) := by decide +kernel
theorem dX2_size_11 : decode cX2_size 11 = .ok (.bipush 31, 2) := by decide +kernel
theorem dX2_size_13 : decode cX2_size 13 = .ok (.if_icmp .ge 15, 3) := by decide +kernel
theorem dX2_size_16 : decode cX2_size 16 = .ok (.aload_n 0, 1) := by decide +kernel
theorem dX2_size_17 : decode cX2_size 17 = .ok (.getfield 15, 3) := by decide +kernel
theorem dX2_size_20 : decode cX2_size 20 = .ok (.aload_n 0, 1) := by decide +kernel
theorem dX2_size_21 : decode cX2_size 21 = .ok (.getfield 25, 3) := by decide +kernel
theorem dX2_size_24 : decode cX2_size 24 = .ok (.iaload, 1) := by decide +kernel
theorem dX2_size_25 : decode cX2_size 25 = .ok (.goto 4, 3) := by decide +kernel
theorem dX2_size_28 : decode cX2_size 28 = .ok (.iconst 0, 1) := by decide +kernel
theorem dX2_size_29 : decode cX2_size 29 = .ok (.ireturn, 1) := by decide +kernel
theorem dX2_has_0 : decode cX2_has 0 = .ok (.iload_n 1, 1) := by decide +kernel
theorem dX2_has_1 : decode cX2_has 1 = .ok (.ifCond .lt 15, 3) := by decide +kernel
theorem dX2_has_4 : decode cX2_has 4 = .ok (.iload_n 1, 1) := by decide +kernel
theorem dX2_has_5 : decode cX2_has 5 = .ok (.aload_n 0, 1) := by decide +kernel
theorem dX2_has_6 : decode cX2_has 6 = .ok (.invokevirtual 28, 3) := by decide +kernel
theorem dX2_has_9 : decode cX2_has 9 = .ok (.if_icmp .ge 7, 3) := by decide +kernel
theorem dX2_has_12 : decode cX2_has 12 = .ok (.iconst 1, 1) := by decide +kernel
theorem dX2_has_13 : decode cX2_has 13 = .ok (.goto 4, 3) := by decide +kernel
theorem dX2_has_16 : decode cX2_has 16 = .ok (.iconst 0, 1) := by decide +kernel
theorem dX2_has_17 : decode cX2_has 17 = .ok (.ireturn, 1) := by decide +kernel
theorem dX2_value_0 : decode cX2_value 0 = .ok (.iload_n 1, 1) := by decide +kernel
theorem dX2_value_1 : decode cX2_value 1 = .ok (.ifCond .lt 28, 3) := by decide +kernel
theorem dX2_value_4 : decode cX2_value 4 = .ok (.iload_n 1, 1) := by decide +kernel
theorem dX2_value_5 : decode cX2_value 5 = .ok (.aload_n 0, 1) := by decide +kernel
theorem dX2_value_6 : decode cX2_value 6 = .ok (.invokevirtual 28, 3) := by decide +kernel
theorem dX2_value_9 : decode cX2_value 9 = .ok (.if_icmp .ge 20, 3) := by decide +kernel
theorem dX2_value_12 : decode cX2_value 12 = .ok (.aload_n 0, 1) := by decide +kernel
theorem dX2_value_13 : decode cX2_value 13 = .ok (.getfield 11, 3) := by decide +kernel
theorem dX2_value_16 : decode cX2_value 16 = .ok (.aload_n 0, 1) := by decide +kernel
theorem dX2_value_17 : decode cX2_value 17 = .ok (.getfield 25, 3) := by decide +kernel
theorem dX2_value_20 : decode cX2_value 20 = .ok (.bipush 40, 2) := by decide +kernel
theorem dX2_value_22 : decode cX2_value 22 = .ok (.imul, 1) := by decide +kernel
theorem dX2_value_23 : decode cX2_value 23 = .ok (.iload_n 1, 1) := by decide +kernel
theorem dX2_value_24 : decode cX2_value 24 = .ok (.iadd, 1) := by decide +kernel
theorem dX2_value_25 : decode cX2_value 25 = .ok (.iaload, 1) := by decide +kernel
theorem dX2_value_26 : decode cX2_value 26 = .ok (.goto 4, 3) := by decide +kernel
theorem dX2_value_29 : decode cX2_value 29 = .ok (.iconst (-1), 1) := by decide +kernel
theorem dX2_value_30 : decode cX2_value 30 = .ok (.ireturn, 1) := by decide +kernel
theorem dX2_resize_0 : decode cX2_resize 0 = .ok (.aload_n 0, 1) := by decide +kernel
theorem dX2_resize_1 : decode cX2_resize 1 = .ok (.getfield 25, 3) := by decide +kernel
theorem dX2_resize_4 : decode cX2_resize 4 = .ok (.ifCond .lt 32, 3) := by decide +kernel
theorem dX2_resize_7 : decode cX2_resize 7 = .ok (.aload_n 0, 1) := by decide +kernel
theorem dX2_resize_8 : decode cX2_resize 8 = .ok (.getfield 25, 3) := by decide +kernel
theorem dX2_resize_11 : decode cX2_resize 11 = .ok (.bipush 31, 2) := by decide +kernel
theorem dX2_resize_13 : decode cX2_resize 13 = .ok (.if_icmp .ge 23, 3) := by decide +kernel
theorem dX2_resize_16 : decode cX2_resize 16 = .ok (.iload_n 1, 1) := by decide +kernel
theorem dX2_resize_17 : decode cX2_resize 17 = .ok (.ifCond .lt 19, 3) := by decide +kernel
theorem dX2_resize_20 : decode cX2_resize 20 = .ok (.iload_n 1, 1) := by decide +kernel
theorem dX2_resize_21 : decode cX2_resize 21 = .ok (.bipush 40, 2) := by decide +kernel
theorem dX2_resize_23 : decode cX2_resize 23 = .ok (.if_icmp .gt 13, 3) := by decide +kernel
theorem dX2_resize_26 : decode cX2_resize 26 = .ok (.aload_n 0, 1) := by decide +kernel
theorem dX2_resize_27 : decode cX2_resize 27 = .ok (.getfield 15, 3) := by decide +kernel
theorem dX2_resize_30 : decode cX2_resize 30 = .ok (.aload_n 0, 1) := by decide +kernel
theorem dX2_resize_31 : decode cX2_resize 31 = .ok (.getfield 25, 3) := by decide +kernel
theorem dX2_resize_34 : decode cX2_resize 34 = .ok (.iload_n 1, 1) := by decide +kernel
theorem dX2_resize_35 : decode cX2_resize 35 = .ok (.iastore, 1) := by decide +kernel
theorem dX2_resize_36 : decode cX2_resize 36 = .ok (.return_, 1) := by decide +kernel
theorem dX2_write_0 : decode cX2_write 0 = .ok (.iload_n 1, 1) := by decide +kernel
theorem dX2_write_1 : decode cX2_write 1 = .ok (.ifCond .lt 26, 3) := by decide +kernel
theorem dX2_write_4 : decode cX2_write 4 = .ok (.iload_n 1, 1) := by decide +kernel
theorem dX2_write_5 : decode cX2_write 5 = .ok (.aload_n 0, 1) := by decide +kernel
theorem dX2_write_6 : decode cX2_write 6 = .ok (.invokevirtual 28, 3) := by decide +kernel
theorem dX2_write_9 : decode cX2_write 9 = .ok (.if_icmp .ge 18, 3) := by decide +kernel
theorem dX2_write_12 : decode cX2_write 12 = .ok (.aload_n 0, 1) := by decide +kernel
theorem dX2_write_13 : decode cX2_write 13 = .ok (.getfield 11, 3) := by decide +kernel
theorem dX2_write_16 : decode cX2_write 16 = .ok (.aload_n 0, 1) := by decide +kernel
theorem dX2_write_17 : decode cX2_write 17 = .ok (.getfield 25, 3) := by decide +kernel
theorem dX2_write_20 : decode cX2_write 20 = .ok (.bipush 40, 2) := by decide +kernel
theorem dX2_write_22 : decode cX2_write 22 = .ok (.imul, 1) := by decide +kernel
theorem dX2_write_23 : decode cX2_write 23 = .ok (.iload_n 1, 1) := by decide +kernel
theorem dX2_write_24 : decode cX2_write 24 = .ok (.iadd, 1) := by decide +kernel
theorem dX2_write_25 : decode cX2_write 25 = .ok (.iload_n 2, 1) := by decide +kernel
theorem dX2_write_26 : decode cX2_write 26 = .ok (.iastore, 1) := by decide +kernel
theorem dX2_write_27 : decode cX2_write 27 = .ok (.return_, 1) := by decide +kernel
theorem dX2_add_0 : decode cX2_add 0 = .ok (.aload_n 0, 1) := by decide +kernel
theorem dX2_add_1 : decode cX2_add 1 = .ok (.invokevirtual 28, 3) := by decide +kernel
theorem dX2_add_4 : decode cX2_add 4 = .ok (.istore_n 2, 1) := by decide +kernel
theorem dX2_add_5 : decode cX2_add 5 = .ok (.iload_n 2, 1) := by decide +kernel
theorem dX2_add_6 : decode cX2_add 6 = .ok (.bipush 40, 2) := by decide +kernel
theorem dX2_add_8 : decode cX2_add 8 = .ok (.if_icmp .ge 20, 3) := by decide +kernel
theorem dX2_add_11 : decode cX2_add 11 = .ok (.aload_n 0, 1) := by decide +kernel
theorem dX2_add_12 : decode cX2_add 12 = .ok (.invokevirtual 32, 3) := by decide +kernel
theorem dX2_add_15 : decode cX2_add 15 = .ok (.aload_n 0, 1) := by decide +kernel
theorem dX2_add_16 : decode cX2_add 16 = .ok (.iload_n 2, 1) := by decide +kernel
theorem dX2_add_17 : decode cX2_add 17 = .ok (.iconst 1, 1) := by decide +kernel
theorem dX2_add_18 : decode cX2_add 18 = .ok (.iadd, 1) := by decide +kernel
theorem dX2_add_19 : decode cX2_add 19 = .ok (.invokevirtual 35, 3) := by decide +kernel
theorem dX2_add_22 : decode cX2_add 22 = .ok (.aload_n 0, 1) := by decide +kernel
theorem dX2_add_23 : decode cX2_add 23 = .ok (.iload_n 2, 1) := by decide +kernel
theorem dX2_add_24 : decode cX2_add 24 = .ok (.iload_n 1, 1) := by decide +kernel
theorem dX2_add_25 : decode cX2_add 25 = .ok (.invokevirtual 39, 3) := by decide +kernel
theorem dX2_add_28 : decode cX2_add 28 = .ok (.aload_n 0, 1) := by decide +kernel
theorem dX2_add_29 : decode cX2_add 29 = .ok (.invokevirtual 28, 3) := by decide +kernel
theorem dX2_add_32 : decode cX2_add 32 = .ok (.ireturn, 1) := by decide +kernel
theorem dX2_put_0 : decode cX2_put 0 = .ok (.aload_n 0, 1) := by decide +kernel
theorem dX2_put_1 : decode cX2_put 1 = .ok (.iload_n 1, 1) := by decide +kernel
theorem dX2_put_2 : decode cX2_put 2 = .ok (.invokevirtual 43, 3) := by decide +kernel
theorem dX2_put_5 : decode cX2_put 5 = .ok (.ifCond .eq 13, 3) := by decide +kernel
theorem dX2_put_8 : decode cX2_put 8 = .ok (.aload_n 0, 1) := by decide +kernel
theorem dX2_put_9 : decode cX2_put 9 = .ok (.invokevirtual 32, 3) := by decide +kernel
theorem dX2_put_12 : decode cX2_put 12 = .ok (.aload_n 0, 1) := by decide +kernel
theorem dX2_put_13 : decode cX2_put 13 = .ok (.iload_n 1, 1) := by decide +kernel
theorem dX2_put_14 : decode cX2_put 14 = .ok (.iload_n 2, 1) := by decide +kernel
theorem dX2_put_15 : decode cX2_put 15 = .ok (.invokevirtual 39, 3) := by decide +kernel
theorem dX2_put_18 : decode cX2_put 18 = .ok (.return_, 1) := by decide +kernel
theorem dX2_drawAll_0 : decode cX2_drawAll 0 = .ok (.iload_n 1, 1) := by decide +kernel
theorem dX2_drawAll_1 : decode cX2_drawAll 1 = .ok (.ifCond .lt 13, 3) := by decide +kernel
theorem dX2_drawAll_4 : decode cX2_drawAll 4 = .ok (.iload_n 1, 1) := by decide +kernel
theorem dX2_drawAll_5 : decode cX2_drawAll 5 = .ok (.bipush 40, 2) := by decide +kernel
theorem dX2_drawAll_7 : decode cX2_drawAll 7 = .ok (.if_icmp .gt 7, 3) := by decide +kernel
theorem dX2_drawAll_10 : decode cX2_drawAll 10 = .ok (.iload_n 2, 1) := by decide +kernel
theorem dX2_drawAll_11 : decode cX2_drawAll 11 = .ok (.ifCond .gt 4, 3) := by decide +kernel
theorem dX2_drawAll_14 : decode cX2_drawAll 14 = .ok (.return_, 1) := by decide +kernel
theorem dX2_drawAll_15 : decode cX2_drawAll 15 = .ok (.aload_n 0, 1) := by decide +kernel
theorem dX2_drawAll_16 : decode cX2_drawAll 16 = .ok (.invokevirtual 32, 3) := by decide +kernel
theorem dX2_drawAll_19 : decode cX2_drawAll 19 = .ok (.aload_n 0, 1) := by decide +kernel
theorem dX2_drawAll_20 : decode cX2_drawAll 20 = .ok (.iload_n 1, 1) := by decide +kernel
theorem dX2_drawAll_21 : decode cX2_drawAll 21 = .ok (.invokevirtual 35, 3) := by decide +kernel
theorem dX2_drawAll_24 : decode cX2_drawAll 24 = .ok (.lload_n 3, 1) := by decide +kernel
theorem dX2_drawAll_25 : decode cX2_drawAll 25 = .ok (.lstore 5, 2) := by decide +kernel
theorem dX2_drawAll_27 : decode cX2_drawAll 27 = .ok (.iconst 0, 1) := by decide +kernel
theorem dX2_drawAll_28 : decode cX2_drawAll 28 = .ok (.istore 7, 2) := by decide +kernel
theorem dX2_drawAll_30 : decode cX2_drawAll 30 = .ok (.iload 7, 2) := by decide +kernel
theorem dX2_drawAll_32 : decode cX2_drawAll 32 = .ok (.iload_n 1, 1) := by decide +kernel
theorem dX2_drawAll_33 : decode cX2_drawAll 33 = .ok (.if_icmp .ge 36, 3) := by decide +kernel
theorem dX2_drawAll_36 : decode cX2_drawAll 36 = .ok (.lload 5, 2) := by decide +kernel
theorem dX2_drawAll_38 : decode cX2_drawAll 38 = .ok (.ldc2_w 47, 3) := by decide +kernel
theorem dX2_drawAll_41 : decode cX2_drawAll 41 = .ok (.lmul, 1) := by decide +kernel
theorem dX2_drawAll_42 : decode cX2_drawAll 42 = .ok (.ldc2_w 49, 3) := by decide +kernel
theorem dX2_drawAll_45 : decode cX2_drawAll 45 = .ok (.ladd, 1) := by decide +kernel
theorem dX2_drawAll_46 : decode cX2_drawAll 46 = .ok (.lstore 5, 2) := by decide +kernel
theorem dX2_drawAll_48 : decode cX2_drawAll 48 = .ok (.aload_n 0, 1) := by decide +kernel
theorem dX2_drawAll_49 : decode cX2_drawAll 49 = .ok (.iload 7, 2) := by decide +kernel
theorem dX2_drawAll_51 : decode cX2_drawAll 51 = .ok (.lload 5, 2) := by decide +kernel
theorem dX2_drawAll_53 : decode cX2_drawAll 53 = .ok (.bipush 33, 2) := by decide +kernel
theorem dX2_drawAll_55 : decode cX2_drawAll 55 = .ok (.lushr, 1) := by decide +kernel
theorem dX2_drawAll_56 : decode cX2_drawAll 56 = .ok (.iload_n 2, 1) := by decide +kernel
theorem dX2_drawAll_57 : decode cX2_drawAll 57 = .ok (.i2l, 1) := by decide +kernel
theorem dX2_drawAll_58 : decode cX2_drawAll 58 = .ok (.lrem, 1) := by decide +kernel
theorem dX2_drawAll_59 : decode cX2_drawAll 59 = .ok (.l2i, 1) := by decide +kernel
theorem dX2_drawAll_60 : decode cX2_drawAll 60 = .ok (.invokevirtual 39, 3) := by decide +kernel
theorem dX2_drawAll_63 : decode cX2_drawAll 63 = .ok (.iinc 7 1, 3) := by decide +kernel
theorem dX2_drawAll_66 : decode cX2_drawAll 66 = .ok (.goto (-36), 3) := by decide +kernel
theorem dX2_drawAll_69 : decode cX2_drawAll 69 = .ok (.return_, 1) := by decide +kernel
theorem dX2_keepImage_0 : decode cX2_keepImage 0 = .ok (.aload_n 0, 1) := by decide +kernel
theorem dX2_keepImage_1 : decode cX2_keepImage 1 = .ok (.aload_n 0, 1) := by decide +kernel
theorem dX2_keepImage_2 : decode cX2_keepImage 2 = .ok (.invokevirtual 28, 3) := by decide +kernel
theorem dX2_keepImage_5 : decode cX2_keepImage 5 = .ok (.putfield 21, 3) := by decide +kernel
theorem dX2_keepImage_8 : decode cX2_keepImage 8 = .ok (.iconst 0, 1) := by decide +kernel
theorem dX2_keepImage_9 : decode cX2_keepImage 9 = .ok (.istore_n 1, 1) := by decide +kernel
theorem dX2_keepImage_10 : decode cX2_keepImage 10 = .ok (.iload_n 1, 1) := by decide +kernel
theorem dX2_keepImage_11 : decode cX2_keepImage 11 = .ok (.aload_n 0, 1) := by decide +kernel
theorem dX2_keepImage_12 : decode cX2_keepImage 12 = .ok (.getfield 21, 3) := by decide +kernel
theorem dX2_keepImage_15 : decode cX2_keepImage 15 = .ok (.if_icmp .ge 26, 3) := by decide +kernel
theorem dX2_keepImage_18 : decode cX2_keepImage 18 = .ok (.iload_n 1, 1) := by decide +kernel
theorem dX2_keepImage_19 : decode cX2_keepImage 19 = .ok (.bipush 40, 2) := by decide +kernel
theorem dX2_keepImage_21 : decode cX2_keepImage 21 = .ok (.if_icmp .ge 20, 3) := by decide +kernel
theorem dX2_keepImage_24 : decode cX2_keepImage 24 = .ok (.aload_n 0, 1) := by decide +kernel
theorem dX2_keepImage_25 : decode cX2_keepImage 25 = .ok (.getfield 18, 3) := by decide +kernel
theorem dX2_keepImage_28 : decode cX2_keepImage 28 = .ok (.iload_n 1, 1) := by decide +kernel
theorem dX2_keepImage_29 : decode cX2_keepImage 29 = .ok (.aload_n 0, 1) := by decide +kernel
theorem dX2_keepImage_30 : decode cX2_keepImage 30 = .ok (.iload_n 1, 1) := by decide +kernel
theorem dX2_keepImage_31 : decode cX2_keepImage 31 = .ok (.invokevirtual 51, 3) := by decide +kernel
theorem dX2_keepImage_34 : decode cX2_keepImage 34 = .ok (.iastore, 1) := by decide +kernel
theorem dX2_keepImage_35 : decode cX2_keepImage 35 = .ok (.iinc 1 1, 3) := by decide +kernel
theorem dX2_keepImage_38 : decode cX2_keepImage 38 = .ok (.goto (-28), 3) := by decide +kernel
theorem dX2_keepImage_41 : decode cX2_keepImage 41 = .ok (.aload_n 0, 1) := by decide +kernel
theorem dX2_keepImage_42 : decode cX2_keepImage 42 = .ok (.getfield 21, 3) := by decide +kernel
theorem dX2_keepImage_45 : decode cX2_keepImage 45 = .ok (.ireturn, 1) := by decide +kernel
theorem dX2_putImageBack_0 : decode cX2_putImageBack 0 = .ok (.aload_n 0, 1) := by decide +kernel
theorem dX2_putImageBack_1 : decode cX2_putImageBack 1 = .ok (.getfield 21, 3) := by decide +kernel
theorem dX2_putImageBack_4 : decode cX2_putImageBack 4 = .ok (.iconst (-1), 1) := by decide +kernel
theorem dX2_putImageBack_5 : decode cX2_putImageBack 5 = .ok (.if_icmp .ne 5, 3) := by decide +kernel
theorem dX2_putImageBack_8 : decode cX2_putImageBack 8 = .ok (.iconst (-1), 1) := by decide +kernel
theorem dX2_putImageBack_9 : decode cX2_putImageBack 9 = .ok (.ireturn, 1) := by decide +kernel
theorem dX2_putImageBack_10 : decode cX2_putImageBack 10 = .ok (.aload_n 0, 1) := by decide +kernel
theorem dX2_putImageBack_11 : decode cX2_putImageBack 11 = .ok (.invokevirtual 32, 3) := by decide +kernel
theorem dX2_putImageBack_14 : decode cX2_putImageBack 14 = .ok (.aload_n 0, 1) := by decide +kernel
theorem dX2_putImageBack_15 : decode cX2_putImageBack 15 = .ok (.aload_n 0, 1) := by decide +kernel
theorem dX2_putImageBack_16 : decode cX2_putImageBack 16 = .ok (.getfield 21, 3) := by decide +kernel
theorem dX2_putImageBack_19 : decode cX2_putImageBack 19 = .ok (.invokevirtual 35, 3) := by decide +kernel
theorem dX2_putImageBack_22 : decode cX2_putImageBack 22 = .ok (.iconst 0, 1) := by decide +kernel
theorem dX2_putImageBack_23 : decode cX2_putImageBack 23 = .ok (.istore_n 1, 1) := by decide +kernel
theorem dX2_putImageBack_24 : decode cX2_putImageBack 24 = .ok (.iload_n 1, 1) := by decide +kernel
theorem dX2_putImageBack_25 : decode cX2_putImageBack 25 = .ok (.aload_n 0, 1) := by decide +kernel
theorem dX2_putImageBack_26 : decode cX2_putImageBack 26 = .ok (.getfield 21, 3) := by decide +kernel
theorem dX2_putImageBack_29 : decode cX2_putImageBack 29 = .ok (.if_icmp .ge 26, 3) := by decide +kernel
theorem dX2_putImageBack_32 : decode cX2_putImageBack 32 = .ok (.iload_n 1, 1) := by decide +kernel
theorem dX2_putImageBack_33 : decode cX2_putImageBack 33 = .ok (.bipush 40, 2) := by decide +kernel
theorem dX2_putImageBack_35 : decode cX2_putImageBack 35 = .ok (.if_icmp .ge 20, 3) := by decide +kernel
theorem dX2_putImageBack_38 : decode cX2_putImageBack 38 = .ok (.aload_n 0, 1) := by decide +kernel
theorem dX2_putImageBack_39 : decode cX2_putImageBack 39 = .ok (.iload_n 1, 1) := by decide +kernel
theorem dX2_putImageBack_40 : decode cX2_putImageBack 40 = .ok (.aload_n 0, 1) := by decide +kernel
theorem dX2_putImageBack_41 : decode cX2_putImageBack 41 = .ok (.getfield 18, 3) := by decide +kernel
theorem dX2_putImageBack_44 : decode cX2_putImageBack 44 = .ok (.iload_n 1, 1) := by decide +kernel
theorem dX2_putImageBack_45 : decode cX2_putImageBack 45 = .ok (.iaload, 1) := by decide +kernel
theorem dX2_putImageBack_46 : decode cX2_putImageBack 46 = .ok (.invokevirtual 39, 3) := by decide +kernel
theorem dX2_putImageBack_49 : decode cX2_putImageBack 49 = .ok (.iinc 1 1, 3) := by decide +kernel
theorem dX2_putImageBack_52 : decode cX2_putImageBack 52 = .ok (.goto (-28), 3) := by decide +kernel
theorem dX2_putImageBack_55 : decode cX2_putImageBack 55 = .ok (.aload_n 0, 1) := by decide +kernel
theorem dX2_putImageBack_56 : decode cX2_putImageBack 56 = .ok (.getfield 21, 3) := by decide +kernel
theorem dX2_putImageBack_59 : decode cX2_putImageBack 59 = .ok (.ireturn, 1) := by decide +kernel
theorem dX2_startAct_0 : decode cX2_startAct 0 = .ok (.aload_n 0, 1) := by decide +kernel
theorem dX2_startAct_1 : decode cX2_startAct 1 = .ok (.getfield 25, 3) := by decide +kernel
theorem dX2_startAct_4 : decode cX2_startAct 4 = .ok (.istore_n 1, 1) := by decide +kernel
theorem dX2_startAct_5 : decode cX2_startAct 5 = .ok (.aload_n 0, 1) := by decide +kernel
theorem dX2_startAct_6 : decode cX2_startAct 6 = .ok (.invokevirtual 28, 3) := by decide +kernel
theorem dX2_startAct_9 : decode cX2_startAct 9 = .ok (.istore_n 2, 1) := by decide +kernel
theorem dX2_startAct_10 : decode cX2_startAct 10 = .ok (.aload_n 0, 1) := by decide +kernel
theorem dX2_startAct_11 : decode cX2_startAct 11 = .ok (.aload_n 0, 1) := by decide +kernel
theorem dX2_startAct_12 : decode cX2_startAct 12 = .ok (.getfield 25, 3) := by decide +kernel
theorem dX2_startAct_15 : decode cX2_startAct 15 = .ok (.bipush 30, 2) := by decide +kernel
theorem dX2_startAct_17 : decode cX2_startAct 17 = .ok (.if_icmp .ge 12, 3) := by decide +kernel
theorem dX2_startAct_20 : decode cX2_startAct 20 = .ok (.aload_n 0, 1) := by decide +kernel
theorem dX2_startAct_21 : decode cX2_startAct 21 = .ok (.getfield 25, 3) := by decide +kernel
theorem dX2_startAct_24 : decode cX2_startAct 24 = .ok (.iconst 1, 1) := by decide +kernel
theorem dX2_startAct_25 : decode cX2_startAct 25 = .ok (.iadd, 1) := by decide +kernel
theorem dX2_startAct_26 : decode cX2_startAct 26 = .ok (.goto 4, 3) := by decide +kernel
theorem dX2_startAct_29 : decode cX2_startAct 29 = .ok (.iconst 0, 1) := by decide +kernel
theorem dX2_startAct_30 : decode cX2_startAct 30 = .ok (.putfield 25, 3) := by decide +kernel
theorem dX2_startAct_33 : decode cX2_startAct 33 = .ok (.aload_n 0, 1) := by decide +kernel
theorem dX2_startAct_34 : decode cX2_startAct 34 = .ok (.iload_n 2, 1) := by decide +kernel
theorem dX2_startAct_35 : decode cX2_startAct 35 = .ok (.invokevirtual 35, 3) := by decide +kernel
theorem dX2_startAct_38 : decode cX2_startAct 38 = .ok (.iconst 0, 1) := by decide +kernel
theorem dX2_startAct_39 : decode cX2_startAct 39 = .ok (.istore_n 3, 1) := by decide +kernel
theorem dX2_startAct_40 : decode cX2_startAct 40 = .ok (.iload_n 3, 1) := by decide +kernel
theorem dX2_startAct_41 : decode cX2_startAct 41 = .ok (.iload_n 2, 1) := by decide +kernel
theorem dX2_startAct_42 : decode cX2_startAct 42 = .ok (.if_icmp .ge 31, 3) := by decide +kernel
theorem dX2_startAct_45 : decode cX2_startAct 45 = .ok (.iload_n 3, 1) := by decide +kernel
theorem dX2_startAct_46 : decode cX2_startAct 46 = .ok (.bipush 40, 2) := by decide +kernel
theorem dX2_startAct_48 : decode cX2_startAct 48 = .ok (.if_icmp .ge 25, 3) := by decide +kernel
theorem dX2_startAct_51 : decode cX2_startAct 51 = .ok (.aload_n 0, 1) := by decide +kernel
theorem dX2_startAct_52 : decode cX2_startAct 52 = .ok (.iload_n 3, 1) := by decide +kernel
theorem dX2_startAct_53 : decode cX2_startAct 53 = .ok (.aload_n 0, 1) := by decide +kernel
theorem dX2_startAct_54 : decode cX2_startAct 54 = .ok (.getfield 11, 3) := by decide +kernel
theorem dX2_startAct_57 : decode cX2_startAct 57 = .ok (.iload_n 1, 1) := by decide +kernel
theorem dX2_startAct_58 : decode cX2_startAct 58 = .ok (.bipush 40, 2) := by decide +kernel
theorem dX2_startAct_60 : decode cX2_startAct 60 = .ok (.imul, 1) := by decide +kernel
theorem dX2_startAct_61 : decode cX2_startAct 61 = .ok (.iload_n 3, 1) := by decide +kernel
theorem dX2_startAct_62 : decode cX2_startAct 62 = .ok (.iadd, 1) := by decide +kernel
theorem dX2_startAct_63 : decode cX2_startAct 63 = .ok (.iaload, 1) := by decide +kernel
theorem dX2_startAct_64 : decode cX2_startAct 64 = .ok (.invokevirtual 39, 3) := by decide +kernel
theorem dX2_startAct_67 : decode cX2_startAct 67 = .ok (.iinc 3 1, 3) := by decide +kernel
theorem dX2_startAct_70 : decode cX2_startAct 70 = .ok (.goto (-30), 3) := by decide +kernel
theorem dX2_startAct_73 : decode cX2_startAct 73 = .ok (.aload_n 0, 1) := by decide +kernel
theorem dX2_startAct_74 : decode cX2_startAct 74 = .ok (.aload_n 0, 1) := by decide +kernel
theorem dX2_startAct_75 : decode cX2_startAct 75 = .ok (.getfield 55, 3) := by decide +kernel
theorem dX2_startAct_78 : decode cX2_startAct 78 = .ok (.iconst 1, 1) := by decide +kernel
theorem dX2_startAct_79 : decode cX2_startAct 79 = .ok (.iadd, 1) := by decide +kernel
theorem dX2_startAct_80 : decode cX2_startAct 80 = .ok (.bipush 30, 2) := by decide +kernel
theorem dX2_startAct_82 : decode cX2_startAct 82 = .ok (.invokestatic 58, 3) := by decide +kernel
theorem dX2_startAct_85 : decode cX2_startAct 85 = .ok (.putfield 55, 3) := by decide +kernel
theorem dX2_startAct_88 : decode cX2_startAct 88 = .ok (.aload_n 0, 1) := by decide +kernel
theorem dX2_startAct_89 : decode cX2_startAct 89 = .ok (.iconst 0, 1) := by decide +kernel
theorem dX2_startAct_90 : decode cX2_startAct 90 = .ok (.putfield 64, 3) := by decide +kernel
theorem dX2_startAct_93 : decode cX2_startAct 93 = .ok (.return_, 1) := by decide +kernel
theorem dX2_goBack_0 : decode cX2_goBack 0 = .ok (.aload_n 0, 1) := by decide +kernel
theorem dX2_goBack_1 : decode cX2_goBack 1 = .ok (.getfield 55, 3) := by decide +kernel
theorem dX2_goBack_4 : decode cX2_goBack 4 = .ok (.ifCond .ne 5, 3) := by decide +kernel
theorem dX2_goBack_7 : decode cX2_goBack 7 = .ok (.iconst (-1), 1) := by decide +kernel
theorem dX2_goBack_8 : decode cX2_goBack 8 = .ok (.ireturn, 1) := by decide +kernel
theorem dX2_goBack_9 : decode cX2_goBack 9 = .ok (.aload_n 0, 1) := by decide +kernel
theorem dX2_goBack_10 : decode cX2_goBack 10 = .ok (.aload_n 0, 1) := by decide +kernel
theorem dX2_goBack_11 : decode cX2_goBack 11 = .ok (.getfield 25, 3) := by decide +kernel
theorem dX2_goBack_14 : decode cX2_goBack 14 = .ok (.ifCond .le 12, 3) := by decide +kernel
theorem dX2_goBack_17 : decode cX2_goBack 17 = .ok (.aload_n 0, 1) := by decide +kernel
theorem dX2_goBack_18 : decode cX2_goBack 18 = .ok (.getfield 25, 3) := by decide +kernel
theorem dX2_goBack_21 : decode cX2_goBack 21 = .ok (.iconst 1, 1) := by decide +kernel
theorem dX2_goBack_22 : decode cX2_goBack 22 = .ok (.isub, 1) := by decide +kernel
theorem dX2_goBack_23 : decode cX2_goBack 23 = .ok (.goto 5, 3) := by decide +kernel
theorem dX2_goBack_26 : decode cX2_goBack 26 = .ok (.bipush 30, 2) := by decide +kernel
theorem dX2_goBack_28 : decode cX2_goBack 28 = .ok (.putfield 25, 3) := by decide +kernel
theorem dX2_goBack_31 : decode cX2_goBack 31 = .ok (.aload_n 0, 1) := by decide +kernel
theorem dX2_goBack_32 : decode cX2_goBack 32 = .ok (.dup, 1) := by decide +kernel
theorem dX2_goBack_33 : decode cX2_goBack 33 = .ok (.getfield 55, 3) := by decide +kernel
theorem dX2_goBack_36 : decode cX2_goBack 36 = .ok (.iconst 1, 1) := by decide +kernel
theorem dX2_goBack_37 : decode cX2_goBack 37 = .ok (.isub, 1) := by decide +kernel
theorem dX2_goBack_38 : decode cX2_goBack 38 = .ok (.putfield 55, 3) := by decide +kernel
theorem dX2_goBack_41 : decode cX2_goBack 41 = .ok (.aload_n 0, 1) := by decide +kernel
theorem dX2_goBack_42 : decode cX2_goBack 42 = .ok (.dup, 1) := by decide +kernel
theorem dX2_goBack_43 : decode cX2_goBack 43 = .ok (.getfield 64, 3) := by decide +kernel
theorem dX2_goBack_46 : decode cX2_goBack 46 = .ok (.iconst 1, 1) := by decide +kernel
theorem dX2_goBack_47 : decode cX2_goBack 47 = .ok (.iadd, 1) := by decide +kernel
theorem dX2_goBack_48 : decode cX2_goBack 48 = .ok (.putfield 64, 3) := by decide +kernel
theorem dX2_goBack_51 : decode cX2_goBack 51 = .ok (.aload_n 0, 1) := by decide +kernel
theorem dX2_goBack_52 : decode cX2_goBack 52 = .ok (.invokevirtual 28, 3) := by decide +kernel
theorem dX2_goBack_55 : decode cX2_goBack 55 = .ok (.ireturn, 1) := by decide +kernel
theorem dX2_goOn_0 : decode cX2_goOn 0 = .ok (.aload_n 0, 1) := by decide +kernel
theorem dX2_goOn_1 : decode cX2_goOn 1 = .ok (.getfield 64, 3) := by decide +kernel
theorem dX2_goOn_4 : decode cX2_goOn 4 = .ok (.ifCond .ne 5, 3) := by decide +kernel
theorem dX2_goOn_7 : decode cX2_goOn 7 = .ok (.iconst (-1), 1) := by decide +kernel
theorem dX2_goOn_8 : decode cX2_goOn 8 = .ok (.ireturn, 1) := by decide +kernel
theorem dX2_goOn_9 : decode cX2_goOn 9 = .ok (.aload_n 0, 1) := by decide +kernel
theorem dX2_goOn_10 : decode cX2_goOn 10 = .ok (.aload_n 0, 1) := by decide +kernel
theorem dX2_goOn_11 : decode cX2_goOn 11 = .ok (.getfield 25, 3) := by decide +kernel
theorem dX2_goOn_14 : decode cX2_goOn 14 = .ok (.bipush 30, 2) := by decide +kernel
theorem dX2_goOn_16 : decode cX2_goOn 16 = .ok (.if_icmp .ge 12, 3) := by decide +kernel
theorem dX2_goOn_19 : decode cX2_goOn 19 = .ok (.aload_n 0, 1) := by decide +kernel
theorem dX2_goOn_20 : decode cX2_goOn 20 = .ok (.getfield 25, 3) := by decide +kernel
theorem dX2_goOn_23 : decode cX2_goOn 23 = .ok (.iconst 1, 1) := by decide +kernel
theorem dX2_goOn_24 : decode cX2_goOn 24 = .ok (.iadd, 1) := by decide +kernel
theorem dX2_goOn_25 : decode cX2_goOn 25 = .ok (.goto 4, 3) := by decide +kernel
theorem dX2_goOn_28 : decode cX2_goOn 28 = .ok (.iconst 0, 1) := by decide +kernel
theorem dX2_goOn_29 : decode cX2_goOn 29 = .ok (.putfield 25, 3) := by decide +kernel
theorem dX2_goOn_32 : decode cX2_goOn 32 = .ok (.aload_n 0, 1) := by decide +kernel
theorem dX2_goOn_33 : decode cX2_goOn 33 = .ok (.dup, 1) := by decide +kernel
theorem dX2_goOn_34 : decode cX2_goOn 34 = .ok (.getfield 55, 3) := by decide +kernel
theorem dX2_goOn_37 : decode cX2_goOn 37 = .ok (.iconst 1, 1) := by decide +kernel
theorem dX2_goOn_38 : decode cX2_goOn 38 = .ok (.iadd, 1) := by decide +kernel
theorem dX2_goOn_39 : decode cX2_goOn 39 = .ok (.putfield 55, 3) := by decide +kernel
theorem dX2_goOn_42 : decode cX2_goOn 42 = .ok (.aload_n 0, 1) := by decide +kernel
theorem dX2_goOn_43 : decode cX2_goOn 43 = .ok (.dup, 1) := by decide +kernel
theorem dX2_goOn_44 : decode cX2_goOn 44 = .ok (.getfield 64, 3) := by decide +kernel
theorem dX2_goOn_47 : decode cX2_goOn 47 = .ok (.iconst 1, 1) := by decide +kernel
theorem dX2_goOn_48 : decode cX2_goOn 48 = .ok (.isub, 1) := by decide +kernel
theorem dX2_goOn_49 : decode cX2_goOn 49 = .ok (.putfield 64, 3) := by decide +kernel
theorem dX2_goOn_52 : decode cX2_goOn 52 = .ok (.aload_n 0, 1) := by decide +kernel
theorem dX2_goOn_53 : decode cX2_goOn 53 = .ok (.invokevirtual 28, 3) := by decide +kernel
theorem dX2_goOn_56 : decode cX2_goOn 56 = .ok (.ireturn, 1) := by decide +kernel
theorem dX3_init_0 : decode cX3_init 0 = .ok (.aload_n 0, 1) := by decide +kernel
theorem dX3_init_1 : decode cX3_init 1 = .ok (.invokespecial 3, 3) := by decide +kernel
theorem dX3_init_4 : decode cX3_init 4 = .ok (.aload_n 0, 1) := by decide +kernel
theorem dX3_init_5 : decode cX3_init 5 = .ok (.sipush 216, 3) := by decide +kernel
theorem dX3_init_8 : decode cX3_init 8 = .ok (.newarray .int, 2) := by decide +kernel
theorem dX3_init_10 : decode cX3_init 10 = .ok (.putfield 11, 3) := by decide +kernel
theorem dX3_init_13 : decode cX3_init 13 = .ok (.aload_n 0, 1) := by decide +kernel
theorem dX3_init_14 : decode cX3_init 14 = .ok (.bipush 9, 2) := by decide +kernel
theorem dX3_init_16 : decode cX3_init 16 = .ok (.newarray .int, 2) := by decide +kernel
theorem dX3_init_18 : decode cX3_init 18 = .ok (.putfield 15, 3) := by decide +kernel
theorem dX3_init_21 : decode cX3_init 21 = .ok (.return_, 1) := by decide +kernel
theorem dX3_has_0 : decode cX3_has 0 = .ok (.iload_n 1, 1) := by decide +kernel
theorem dX3_has_1 : decode cX3_has 1 = .ok (.ifCond .lt 15, 3) := by decide +kernel
theorem dX3_has_4 : decode cX3_has 4 = .ok (.iload_n 1, 1) := by decide +kernel
theorem dX3_has_5 : decode cX3_has 5 = .ok (.aload_n 0, 1) := by decide +kernel
theorem dX3_has_6 : decode cX3_has 6 = .ok (.getfield 18, 3) := by decide +kernel
theorem dX3_has_9 : decode cX3_has 9 = .ok (.if_icmp .ge 7, 3) := by decide +kernel
theorem dX3_has_12 : decode cX3_has 12 = .ok (.iconst 1, 1) := by decide +kernel
theorem dX3_has_13 : decode cX3_has 13 = .ok (.goto 4, 3) := by decide +kernel
theorem dX3_has_16 : decode cX3_has 16 = .ok (.iconst 0, 1) := by decide +kernel
theorem dX3_has_17 : decode cX3_has 17 = .ok (.ireturn, 1) := by decide +kernel
theorem dX3_lengthOf_0 : decode cX3_lengthOf 0 = .ok (.iload_n 1, 1) := by decide +kernel
theorem dX3_lengthOf_1 : decode cX3_lengthOf 1 = .ok (.ifCond .lt 21, 3) := by decide +kernel
theorem dX3_lengthOf_4 : decode cX3_lengthOf 4 = .ok (.iload_n 1, 1) := by decide +kernel
theorem dX3_lengthOf_5 : decode cX3_lengthOf 5 = .ok (.aload_n 0, 1) := by decide +kernel
theorem dX3_lengthOf_6 : decode cX3_lengthOf 6 = .ok (.getfield 15, 3) := by decide +kernel
theorem dX3_lengthOf_9 : decode cX3_lengthOf 9 = .ok (.arraylength, 1) := by decide +kernel
theorem dX3_lengthOf_10 : decode cX3_lengthOf 10 = .ok (.if_icmp .ge 12, 3) := by decide +kernel
theorem dX3_lengthOf_13 : decode cX3_lengthOf 13 = .ok (.aload_n 0, 1) := by decide +kernel
theorem dX3_lengthOf_14 : decode cX3_lengthOf 14 = .ok (.getfield 15, 3) := by decide +kernel
theorem dX3_lengthOf_17 : decode cX3_lengthOf 17 = .ok (.iload_n 1, 1) := by decide +kernel
theorem dX3_lengthOf_18 : decode cX3_lengthOf 18 = .ok (.iaload, 1) := by decide +kernel
theorem dX3_lengthOf_19 : decode cX3_lengthOf 19 = .ok (.goto 4, 3) := by decide +kernel
theorem dX3_lengthOf_22 : decode cX3_lengthOf 22 = .ok (.iconst 0, 1) := by decide +kernel
theorem dX3_lengthOf_23 : decode cX3_lengthOf 23 = .ok (.ireturn, 1) := by decide +kernel
theorem dX3_turn_0 : decode cX3_turn 0 = .ok (.aload_n 0, 1) := by decide +kernel
theorem dX3_turn_1 : decode cX3_turn 1 = .ok (.iload_n 1, 1) := by decide +kernel
theorem dX3_turn_2 : decode cX3_turn 2 = .ok (.invokevirtual 22, 3) := by decide +kernel
theorem dX3_turn_5 : decode cX3_turn 5 = .ok (.ifCond .eq 31, 3) := by decide +kernel
theorem dX3_turn_8 : decode cX3_turn 8 = .ok (.iload_n 2, 1) := by decide +kernel
theorem dX3_turn_9 : decode cX3_turn 9 = .ok (.ifCond .lt 27, 3) := by decide +kernel
theorem dX3_turn_12 : decode cX3_turn 12 = .ok (.iload_n 2, 1) := by decide +kernel
theorem dX3_turn_13 : decode cX3_turn 13 = .ok (.aload_n 0, 1) := by decide +kernel
theorem dX3_turn_14 : decode cX3_turn 14 = .ok (.getfield 15, 3) := by decide +kernel
theorem dX3_turn_17 : decode cX3_turn 17 = .ok (.iload_n 1, 1) := by decide +kernel
theorem dX3_turn_18 : decode cX3_turn 18 = .ok (.iaload, 1) := by decide +kernel
theorem dX3_turn_19 : decode cX3_turn 19 = .ok (.if_icmp .ge 17, 3) := by decide +kernel
theorem dX3_turn_22 : decode cX3_turn 22 = .ok (.aload_n 0, 1) := by decide +kernel
theorem dX3_turn_23 : decode cX3_turn 23 = .ok (.getfield 11, 3) := by decide +kernel
theorem dX3_turn_26 : decode cX3_turn 26 = .ok (.iload_n 1, 1) := by decide +kernel
theorem dX3_turn_27 : decode cX3_turn 27 = .ok (.bipush 24, 2) := by decide +kernel
theorem dX3_turn_29 : decode cX3_turn 29 = .ok (.imul, 1) := by decide +kernel
theorem dX3_turn_30 : decode cX3_turn 30 = .ok (.iload_n 2, 1) := by decide +kernel
theorem dX3_turn_31 : decode cX3_turn 31 = .ok (.iadd, 1) := by decide +kernel
theorem dX3_turn_32 : decode cX3_turn 32 = .ok (.iaload, 1) := by decide +kernel
theorem dX3_turn_33 : decode cX3_turn 33 = .ok (.goto 4, 3) := by decide +kernel
theorem dX3_turn_36 : decode cX3_turn 36 = .ok (.iconst 0, 1) := by decide +kernel
theorem dX3_turn_37 : decode cX3_turn 37 = .ok (.ireturn, 1) := by decide +kernel
theorem dX3_readFrom_0 : decode cX3_readFrom 0 = .ok (.iconst 0, 1) := by decide +kernel
theorem dX3_readFrom_1 : decode cX3_readFrom 1 = .ok (.istore_n 2, 1) := by decide +kernel
theorem dX3_readFrom_2 : decode cX3_readFrom 2 = .ok (.aload_n 1, 1) := by decide +kernel
theorem dX3_readFrom_3 : decode cX3_readFrom 3 = .ok (.invokevirtual 26, 3) := by decide +kernel
theorem dX3_readFrom_6 : decode cX3_readFrom 6 = .ok (.iconst 0, 1) := by decide +kernel
theorem dX3_readFrom_7 : decode cX3_readFrom 7 = .ok (.istore_n 3, 1) := by decide +kernel
theorem dX3_readFrom_8 : decode cX3_readFrom 8 = .ok (.iload_n 3, 1) := by decide +kernel
theorem dX3_readFrom_9 : decode cX3_readFrom 9 = .ok (.bipush 24, 2) := by decide +kernel
theorem dX3_readFrom_11 : decode cX3_readFrom 11 = .ok (.if_icmp .gt 99, 3) := by decide +kernel
theorem dX3_readFrom_14 : decode cX3_readFrom 14 = .ok (.aload_n 1, 1) := by decide +kernel
theorem dX3_readFrom_15 : decode cX3_readFrom 15 = .ok (.invokevirtual 31, 3) := by decide +kernel
theorem dX3_readFrom_18 : decode cX3_readFrom 18 = .ok (.ifCond .eq 92, 3) := by decide +kernel
theorem dX3_readFrom_21 : decode cX3_readFrom 21 = .ok (.aload_n 1, 1) := by decide +kernel
theorem dX3_readFrom_22 : decode cX3_readFrom 22 = .ok (.invokevirtual 31, 3) := by decide +kernel
theorem dX3_readFrom_25 : decode cX3_readFrom 25 = .ok (.invokestatic 35, 3) := by decide +kernel
theorem dX3_readFrom_28 : decode cX3_readFrom 28 = .ok (.istore 4, 2) := by decide +kernel
theorem dX3_readFrom_30 : decode cX3_readFrom 30 = .ok (.iload 4, 2) := by decide +kernel
theorem dX3_readFrom_32 : decode cX3_readFrom 32 = .ok (.iconst (-1), 1) := by decide +kernel
theorem dX3_readFrom_33 : decode cX3_readFrom 33 = .ok (.if_icmp .eq 9, 3) := by decide +kernel
theorem dX3_readFrom_36 : decode cX3_readFrom 36 = .ok (.iload_n 2, 1) := by decide +kernel
theorem dX3_readFrom_37 : decode cX3_readFrom 37 = .ok (.bipush 24, 2) := by decide +kernel
theorem dX3_readFrom_39 : decode cX3_readFrom 39 = .ok (.if_icmp .lt 8, 3) := by decide +kernel
theorem dX3_readFrom_42 : decode cX3_readFrom 42 = .ok (.aload_n 1, 1) := by decide +kernel
theorem dX3_readFrom_43 : decode cX3_readFrom 43 = .ok (.getfield 39, 3) := by decide +kernel
theorem dX3_readFrom_46 : decode cX3_readFrom 46 = .ok (.ireturn, 1) := by decide +kernel
theorem dX3_readFrom_47 : decode cX3_readFrom 47 = .ok (.aload_n 1, 1) := by decide +kernel
theorem dX3_readFrom_48 : decode cX3_readFrom 48 = .ok (.invokevirtual 42, 3) := by decide +kernel
theorem dX3_readFrom_51 : decode cX3_readFrom 51 = .ok (.aload_n 1, 1) := by decide +kernel
theorem dX3_readFrom_52 : decode cX3_readFrom 52 = .ok (.invokevirtual 31, 3) := by decide +kernel
theorem dX3_readFrom_55 : decode cX3_readFrom 55 = .ok (.pop, 1) := by decide +kernel
theorem dX3_readFrom_56 : decode cX3_readFrom 56 = .ok (.aload_n 1, 1) := by decide +kernel
theorem dX3_readFrom_57 : decode cX3_readFrom 57 = .ok (.invokevirtual 45, 3) := by decide +kernel
theorem dX3_readFrom_60 : decode cX3_readFrom 60 = .ok (.istore 5, 2) := by decide +kernel
theorem dX3_readFrom_62 : decode cX3_readFrom 62 = .ok (.iload 5, 2) := by decide +kernel
theorem dX3_readFrom_64 : decode cX3_readFrom 64 = .ok (.ifCond .eq 12, 3) := by decide +kernel
theorem dX3_readFrom_67 : decode cX3_readFrom 67 = .ok (.iload_n 2, 1) := by decide +kernel
theorem dX3_readFrom_68 : decode cX3_readFrom 68 = .ok (.iload 5, 2) := by decide +kernel
theorem dX3_readFrom_70 : decode cX3_readFrom 70 = .ok (.iadd, 1) := by decide +kernel
theorem dX3_readFrom_71 : decode cX3_readFrom 71 = .ok (.bipush 24, 2) := by decide +kernel
theorem dX3_readFrom_73 : decode cX3_readFrom 73 = .ok (.if_icmp .le 8, 3) := by decide +kernel
theorem dX3_readFrom_76 : decode cX3_readFrom 76 = .ok (.aload_n 1, 1) := by decide +kernel
theorem dX3_readFrom_77 : decode cX3_readFrom 77 = .ok (.getfield 39, 3) := by decide +kernel
theorem dX3_readFrom_80 : decode cX3_readFrom 80 = .ok (.ireturn, 1) := by decide +kernel
theorem dX3_readFrom_81 : decode cX3_readFrom 81 = .ok (.iload 5, 2) := by decide +kernel
theorem dX3_readFrom_83 : decode cX3_readFrom 83 = .ok (.ifCond .le 7, 3) := by decide +kernel
theorem dX3_readFrom_86 : decode cX3_readFrom 86 = .ok (.aload_n 1, 1) := by decide +kernel
theorem dX3_readFrom_87 : decode cX3_readFrom 87 = .ok (.invokevirtual 42, 3) := by decide +kernel
theorem dX3_readFrom_90 : decode cX3_readFrom 90 = .ok (.aload_n 0, 1) := by decide +kernel
theorem dX3_readFrom_91 : decode cX3_readFrom 91 = .ok (.iload 4, 2) := by decide +kernel
theorem dX3_readFrom_93 : decode cX3_readFrom 93 = .ok (.iload_n 2, 1) := by decide +kernel
theorem dX3_readFrom_94 : decode cX3_readFrom 94 = .ok (.iload 5, 2) := by decide +kernel
theorem dX3_readFrom_96 : decode cX3_readFrom 96 = .ok (.iconst 1, 1) := by decide +kernel
theorem dX3_readFrom_97 : decode cX3_readFrom 97 = .ok (.invokestatic 48, 3) := by decide +kernel
theorem dX3_readFrom_100 : decode cX3_readFrom 100 = .ok (.invokevirtual 54, 3) := by decide +kernel
theorem dX3_readFrom_103 : decode cX3_readFrom 103 = .ok (.istore_n 2, 1) := by decide +kernel
theorem dX3_readFrom_104 : decode cX3_readFrom 104 = .ok (.iinc 3 1, 3) := by decide +kernel
theorem dX3_readFrom_107 : decode cX3_readFrom 107 = .ok (.goto (-99), 3) := by decide +kernel
theorem dX3_readFrom_110 : decode cX3_readFrom 110 = .ok (.aload_n 0, 1) := by decide +kernel
theorem dX3_readFrom_111 : decode cX3_readFrom 111 = .ok (.getfield 18, 3) := by decide +kernel
theorem dX3_readFrom_114 : decode cX3_readFrom 114 = .ok (.aload_n 0, 1) := by decide +kernel
theorem dX3_readFrom_115 : decode cX3_readFrom 115 = .ok (.getfield 15, 3) := by decide +kernel
theorem dX3_readFrom_118 : decode cX3_readFrom 118 = .ok (.arraylength, 1) := by decide +kernel
theorem dX3_readFrom_119 : decode cX3_readFrom 119 = .ok (.if_icmp .ge 13, 3) := by decide +kernel
theorem dX3_readFrom_122 : decode cX3_readFrom 122 = .ok (.aload_n 0, 1) := by decide +kernel
theorem dX3_readFrom_123 : decode cX3_readFrom 123 = .ok (.getfield 15, 3) := by decide +kernel
theorem dX3_readFrom_126 : decode cX3_readFrom 126 = .ok (.aload_n 0, 1) := by decide +kernel
theorem dX3_readFrom_127 : decode cX3_readFrom 127 = .ok (.getfield 18, 3) := by decide +kernel
theorem dX3_readFrom_130 : decode cX3_readFrom 130 = .ok (.iload_n 2, 1) := by decide +kernel
theorem dX3_readFrom_131 : decode cX3_readFrom 131 = .ok (.iastore, 1) := by decide +kernel
theorem dX3_readFrom_132 : decode cX3_readFrom 132 = .ok (.iload_n 2, 1) := by decide +kernel
theorem dX3_readFrom_133 : decode cX3_readFrom 133 = .ok (.ifCond .ne 10, 3) := by decide +kernel
theorem dX3_readFrom_136 : decode cX3_readFrom 136 = .ok (.aload_n 1, 1) := by decide +kernel
theorem dX3_readFrom_137 : decode cX3_readFrom 137 = .ok (.getfield 39, 3) := by decide +kernel
theorem dX3_readFrom_140 : decode cX3_readFrom 140 = .ok (.goto 4, 3) := by decide +kernel
theorem dX3_readFrom_143 : decode cX3_readFrom 143 = .ok (.iconst (-1), 1) := by decide +kernel
theorem dX3_readFrom_144 : decode cX3_readFrom 144 = .ok (.ireturn, 1) := by decide +kernel
theorem dX3_turnOf_0 : decode cX3_turnOf 0 = .ok (.iload_n 0, 1) := by decide +kernel
theorem dX3_turnOf_1 : decode cX3_turnOf 1 = .ok (.lookupswitch 51 #[(43, 43), (45, 47), (105, 45), (106, 49)], 43) := by decide +kernel
theorem dX3_turnOf_44 : decode cX3_turnOf 44 = .ok (.iconst 0, 1) := by decide +kernel
theorem dX3_turnOf_45 : decode cX3_turnOf 45 = .ok (.ireturn, 1) := by decide +kernel
theorem dX3_turnOf_46 : decode cX3_turnOf 46 = .ok (.iconst 1, 1) := by decide +kernel
theorem dX3_turnOf_47 : decode cX3_turnOf 47 = .ok (.ireturn, 1) := by decide +kernel
theorem dX3_turnOf_48 : decode cX3_turnOf 48 = .ok (.iconst 2, 1) := by decide +kernel
theorem dX3_turnOf_49 : decode cX3_turnOf 49 = .ok (.ireturn, 1) := by decide +kernel
theorem dX3_turnOf_50 : decode cX3_turnOf 50 = .ok (.iconst 3, 1) := by decide +kernel
theorem dX3_turnOf_51 : decode cX3_turnOf 51 = .ok (.ireturn, 1) := by decide +kernel
theorem dX3_turnOf_52 : decode cX3_turnOf 52 = .ok (.iconst (-1), 1) := by decide +kernel
theorem dX3_turnOf_53 : decode cX3_turnOf 53 = .ok (.ireturn, 1) := by decide +kernel
theorem dX3_putRun_0 : decode cX3_putRun 0 = .ok (.iload_n 2, 1) := by decide +kernel
theorem dX3_putRun_1 : decode cX3_putRun 1 = .ok (.iload_n 3, 1) := by decide +kernel
theorem dX3_putRun_2 : decode cX3_putRun 2 = .ok (.iadd, 1) := by decide +kernel
theorem dX3_putRun_3 : decode cX3_putRun 3 = .ok (.bipush 24, 2) := by decide +kernel
theorem dX3_putRun_5 : decode cX3_putRun 5 = .ok (.invokestatic 58, 3) := by decide +kernel
theorem dX3_putRun_8 : decode cX3_putRun 8 = .ok (.istore 4, 2) := by decide +kernel
theorem dX3_putRun_10 : decode cX3_putRun 10 = .ok (.iload_n 2, 1) := by decide +kernel
theorem dX3_putRun_11 : decode cX3_putRun 11 = .ok (.istore 5, 2) := by decide +kernel
theorem dX3_putRun_13 : decode cX3_putRun 13 = .ok (.iload 5, 2) := by decide +kernel
theorem dX3_putRun_15 : decode cX3_putRun 15 = .ok (.iload 4, 2) := by decide +kernel
theorem dX3_putRun_17 : decode cX3_putRun 17 = .ok (.if_icmp .ge 44, 3) := by decide +kernel
theorem dX3_putRun_20 : decode cX3_putRun 20 = .ok (.aload_n 0, 1) := by decide +kernel
theorem dX3_putRun_21 : decode cX3_putRun 21 = .ok (.getfield 18, 3) := by decide +kernel
theorem dX3_putRun_24 : decode cX3_putRun 24 = .ok (.bipush 24, 2) := by decide +kernel
theorem dX3_putRun_26 : decode cX3_putRun 26 = .ok (.imul, 1) := by decide +kernel
theorem dX3_putRun_27 : decode cX3_putRun 27 = .ok (.iload 5, 2) := by decide +kernel
theorem dX3_putRun_29 : decode cX3_putRun 29 = .ok (.iadd, 1) := by decide +kernel
theorem dX3_putRun_30 : decode cX3_putRun 30 = .ok (.istore 6, 2) := by decide +kernel
theorem dX3_putRun_32 : decode cX3_putRun 32 = .ok (.iload 6, 2) := by decide +kernel
theorem dX3_putRun_34 : decode cX3_putRun 34 = .ok (.ifCond .lt 21, 3) := by decide +kernel
theorem dX3_putRun_37 : decode cX3_putRun 37 = .ok (.iload 6, 2) := by decide +kernel
theorem dX3_putRun_39 : decode cX3_putRun 39 = .ok (.aload_n 0, 1) := by decide +kernel
theorem dX3_putRun_40 : decode cX3_putRun 40 = .ok (.getfield 11, 3) := by decide +kernel
theorem dX3_putRun_43 : decode cX3_putRun 43 = .ok (.arraylength, 1) := by decide +kernel
theorem dX3_putRun_44 : decode cX3_putRun 44 = .ok (.if_icmp .ge 11, 3) := by decide +kernel
theorem dX3_putRun_47 : decode cX3_putRun 47 = .ok (.aload_n 0, 1) := by decide +kernel
theorem dX3_putRun_48 : decode cX3_putRun 48 = .ok (.getfield 11, 3) := by decide +kernel
theorem dX3_putRun_51 : decode cX3_putRun 51 = .ok (.iload 6, 2) := by decide +kernel
theorem dX3_putRun_53 : decode cX3_putRun 53 = .ok (.iload_n 1, 1) := by decide +kernel
theorem dX3_putRun_54 : decode cX3_putRun 54 = .ok (.iastore, 1) := by decide +kernel
theorem dX3_putRun_55 : decode cX3_putRun 55 = .ok (.iinc 5 1, 3) := by decide +kernel
theorem dX3_putRun_58 : decode cX3_putRun 58 = .ok (.goto (-45), 3) := by decide +kernel
theorem dX3_putRun_61 : decode cX3_putRun 61 = .ok (.iload 4, 2) := by decide +kernel
theorem dX3_putRun_63 : decode cX3_putRun 63 = .ok (.ireturn, 1) := by decide +kernel
theorem dX3_keep_0 : decode cX3_keep 0 = .ok (.aload_n 0, 1) := by decide +kernel
theorem dX3_keep_1 : decode cX3_keep 1 = .ok (.getfield 18, 3) := by decide +kernel
theorem dX3_keep_4 : decode cX3_keep 4 = .ok (.bipush 8, 2) := by decide +kernel
theorem dX3_keep_6 : decode cX3_keep 6 = .ok (.if_icmp .lt 5, 3) := by decide +kernel
theorem dX3_keep_9 : decode cX3_keep 9 = .ok (.iconst (-1), 1) := by decide +kernel
theorem dX3_keep_10 : decode cX3_keep 10 = .ok (.ireturn, 1) := by decide +kernel
theorem dX3_keep_11 : decode cX3_keep 11 = .ok (.aload_n 0, 1) := by decide +kernel
theorem dX3_keep_12 : decode cX3_keep 12 = .ok (.dup, 1) := by decide +kernel
theorem dX3_keep_13 : decode cX3_keep 13 = .ok (.getfield 18, 3) := by decide +kernel
theorem dX3_keep_16 : decode cX3_keep 16 = .ok (.iconst 1, 1) := by decide +kernel
theorem dX3_keep_17 : decode cX3_keep 17 = .ok (.iadd, 1) := by decide +kernel
theorem dX3_keep_18 : decode cX3_keep 18 = .ok (.putfield 18, 3) := by decide +kernel
theorem dX3_keep_21 : decode cX3_keep 21 = .ok (.aload_n 0, 1) := by decide +kernel
theorem dX3_keep_22 : decode cX3_keep 22 = .ok (.getfield 18, 3) := by decide +kernel
theorem dX3_keep_25 : decode cX3_keep 25 = .ok (.iconst 1, 1) := by decide +kernel
theorem dX3_keep_26 : decode cX3_keep 26 = .ok (.isub, 1) := by decide +kernel
theorem dX3_keep_27 : decode cX3_keep 27 = .ok (.ireturn, 1) := by decide +kernel
theorem dX3_areLike_0 : decode cX3_areLike 0 = .ok (.aload_n 0, 1) := by decide +kernel
theorem dX3_areLike_1 : decode cX3_areLike 1 = .ok (.iload_n 1, 1) := by decide +kernel
theorem dX3_areLike_2 : decode cX3_areLike 2 = .ok (.invokevirtual 61, 3) := by decide +kernel
theorem dX3_areLike_5 : decode cX3_areLike 5 = .ok (.aload_n 0, 1) := by decide +kernel
theorem dX3_areLike_6 : decode cX3_areLike 6 = .ok (.iload_n 2, 1) := by decide +kernel
theorem dX3_areLike_7 : decode cX3_areLike 7 = .ok (.invokevirtual 61, 3) := by decide +kernel
theorem dX3_areLike_10 : decode cX3_areLike 10 = .ok (.if_icmp .eq 5, 3) := by decide +kernel
theorem dX3_areLike_13 : decode cX3_areLike 13 = .ok (.iconst 0, 1) := by decide +kernel
theorem dX3_areLike_14 : decode cX3_areLike 14 = .ok (.ireturn, 1) := by decide +kernel
theorem dX3_areLike_15 : decode cX3_areLike 15 = .ok (.iconst 0, 1) := by decide +kernel
theorem dX3_areLike_16 : decode cX3_areLike 16 = .ok (.istore_n 3, 1) := by decide +kernel
theorem dX3_areLike_17 : decode cX3_areLike 17 = .ok (.iload_n 3, 1) := by decide +kernel
theorem dX3_areLike_18 : decode cX3_areLike 18 = .ok (.iconst 4, 1) := by decide +kernel
theorem dX3_areLike_19 : decode cX3_areLike 19 = .ok (.if_icmp .ge 59, 3) := by decide +kernel
theorem dX3_areLike_22 : decode cX3_areLike 22 = .ok (.aload_n 0, 1) := by decide +kernel
theorem dX3_areLike_23 : decode cX3_areLike 23 = .ok (.iload_n 1, 1) := by decide +kernel
theorem dX3_areLike_24 : decode cX3_areLike 24 = .ok (.iload_n 2, 1) := by decide +kernel
theorem dX3_areLike_25 : decode cX3_areLike 25 = .ok (.iconst 0, 1) := by decide +kernel
theorem dX3_areLike_26 : decode cX3_areLike 26 = .ok (.iconst 1, 1) := by decide +kernel
theorem dX3_areLike_27 : decode cX3_areLike 27 = .ok (.iload_n 3, 1) := by decide +kernel
theorem dX3_areLike_28 : decode cX3_areLike 28 = .ok (.invokevirtual 64, 3) := by decide +kernel
theorem dX3_areLike_31 : decode cX3_areLike 31 = .ok (.ifCond .ne 39, 3) := by decide +kernel
theorem dX3_areLike_34 : decode cX3_areLike 34 = .ok (.aload_n 0, 1) := by decide +kernel
theorem dX3_areLike_35 : decode cX3_areLike 35 = .ok (.iload_n 1, 1) := by decide +kernel
theorem dX3_areLike_36 : decode cX3_areLike 36 = .ok (.iload_n 2, 1) := by decide +kernel
theorem dX3_areLike_37 : decode cX3_areLike 37 = .ok (.iconst 0, 1) := by decide +kernel
theorem dX3_areLike_38 : decode cX3_areLike 38 = .ok (.iconst (-1), 1) := by decide +kernel
theorem dX3_areLike_39 : decode cX3_areLike 39 = .ok (.iload_n 3, 1) := by decide +kernel
theorem dX3_areLike_40 : decode cX3_areLike 40 = .ok (.invokevirtual 64, 3) := by decide +kernel
theorem dX3_areLike_43 : decode cX3_areLike 43 = .ok (.ifCond .ne 27, 3) := by decide +kernel
theorem dX3_areLike_46 : decode cX3_areLike 46 = .ok (.aload_n 0, 1) := by decide +kernel
theorem dX3_areLike_47 : decode cX3_areLike 47 = .ok (.iload_n 1, 1) := by decide +kernel
theorem dX3_areLike_48 : decode cX3_areLike 48 = .ok (.iload_n 2, 1) := by decide +kernel
theorem dX3_areLike_49 : decode cX3_areLike 49 = .ok (.iconst 1, 1) := by decide +kernel
theorem dX3_areLike_50 : decode cX3_areLike 50 = .ok (.iconst 1, 1) := by decide +kernel
theorem dX3_areLike_51 : decode cX3_areLike 51 = .ok (.iload_n 3, 1) := by decide +kernel
theorem dX3_areLike_52 : decode cX3_areLike 52 = .ok (.invokevirtual 64, 3) := by decide +kernel
theorem dX3_areLike_55 : decode cX3_areLike 55 = .ok (.ifCond .ne 15, 3) := by decide +kernel
theorem dX3_areLike_58 : decode cX3_areLike 58 = .ok (.aload_n 0, 1) := by decide +kernel
theorem dX3_areLike_59 : decode cX3_areLike 59 = .ok (.iload_n 1, 1) := by decide +kernel
theorem dX3_areLike_60 : decode cX3_areLike 60 = .ok (.iload_n 2, 1) := by decide +kernel
theorem dX3_areLike_61 : decode cX3_areLike 61 = .ok (.iconst 1, 1) := by decide +kernel
theorem dX3_areLike_62 : decode cX3_areLike 62 = .ok (.iconst (-1), 1) := by decide +kernel
theorem dX3_areLike_63 : decode cX3_areLike 63 = .ok (.iload_n 3, 1) := by decide +kernel
theorem dX3_areLike_64 : decode cX3_areLike 64 = .ok (.invokevirtual 64, 3) := by decide +kernel
theorem dX3_areLike_67 : decode cX3_areLike 67 = .ok (.ifCond .eq 5, 3) := by decide +kernel
theorem dX3_areLike_70 : decode cX3_areLike 70 = .ok (.iconst 1, 1) := by decide +kernel
theorem dX3_areLike_71 : decode cX3_areLike 71 = .ok (.ireturn, 1) := by decide +kernel
theorem dX3_areLike_72 : decode cX3_areLike 72 = .ok (.iinc 3 1, 3) := by decide +kernel
theorem dX3_areLike_75 : decode cX3_areLike 75 = .ok (.goto (-58), 3) := by decide +kernel
theorem dX3_areLike_78 : decode cX3_areLike 78 = .ok (.iconst 0, 1) := by decide +kernel
theorem dX3_areLike_79 : decode cX3_areLike 79 = .ok (.ireturn, 1) := by decide +kernel
theorem dX3_isTurned_0 : decode cX3_isTurned 0 = .ok (.aload_n 0, 1) := by decide +kernel
theorem dX3_isTurned_1 : decode cX3_isTurned 1 = .ok (.iload_n 1, 1) := by decide +kernel
theorem dX3_isTurned_2 : decode cX3_isTurned 2 = .ok (.invokevirtual 61, 3) := by decide +kernel
theorem dX3_isTurned_5 : decode cX3_isTurned 5 = .ok (.istore 6, 2) := by decide +kernel
theorem dX3_isTurned_7 : decode cX3_isTurned 7 = .ok (.iconst 0, 1) := by decide +kernel
theorem dX3_isTurned_8 : decode cX3_isTurned 8 = .ok (.istore 7, 2) := by decide +kernel
theorem dX3_isTurned_10 : decode cX3_isTurned 10 = .ok (.iconst 0, 1) := by decide +kernel
theorem dX3_isTurned_11 : decode cX3_isTurned 11 = .ok (.istore 8, 2) := by decide +kernel
theorem dX3_isTurned_13 : decode cX3_isTurned 13 = .ok (.iload 8, 2) := by decide +kernel
theorem dX3_isTurned_15 : decode cX3_isTurned 15 = .ok (.iload 6, 2) := by decide +kernel
theorem dX3_isTurned_17 : decode cX3_isTurned 17 = .ok (.if_icmp .ge 73, 3) := by decide +kernel
theorem dX3_isTurned_20 : decode cX3_isTurned 20 = .ok (.aload_n 0, 1) := by decide +kernel
theorem dX3_isTurned_21 : decode cX3_isTurned 21 = .ok (.iload_n 1, 1) := by decide +kernel
theorem dX3_isTurned_22 : decode cX3_isTurned 22 = .ok (.iload_n 3, 1) := by decide +kernel
theorem dX3_isTurned_23 : decode cX3_isTurned 23 = .ok (.ifCond .eq 13, 3) := by decide +kernel
theorem dX3_isTurned_26 : decode cX3_isTurned 26 = .ok (.iload 6, 2) := by decide +kernel
theorem dX3_isTurned_28 : decode cX3_isTurned 28 = .ok (.iconst 1, 1) := by decide +kernel
theorem dX3_isTurned_29 : decode cX3_isTurned 29 = .ok (.isub, 1) := by decide +kernel
theorem dX3_isTurned_30 : decode cX3_isTurned 30 = .ok (.iload 8, 2) := by decide +kernel
theorem dX3_isTurned_32 : decode cX3_isTurned 32 = .ok (.isub, 1) := by decide +kernel
theorem dX3_isTurned_33 : decode cX3_isTurned 33 = .ok (.goto 5, 3) := by decide +kernel
theorem dX3_isTurned_36 : decode cX3_isTurned 36 = .ok (.iload 8, 2) := by decide +kernel
theorem dX3_isTurned_38 : decode cX3_isTurned 38 = .ok (.invokevirtual 68, 3) := by decide +kernel
theorem dX3_isTurned_41 : decode cX3_isTurned 41 = .ok (.istore 9, 2) := by decide +kernel
theorem dX3_isTurned_43 : decode cX3_isTurned 43 = .ok (.aload_n 0, 1) := by decide +kernel
theorem dX3_isTurned_44 : decode cX3_isTurned 44 = .ok (.iload_n 2, 1) := by decide +kernel
theorem dX3_isTurned_45 : decode cX3_isTurned 45 = .ok (.iload 8, 2) := by decide +kernel
theorem dX3_isTurned_47 : decode cX3_isTurned 47 = .ok (.invokevirtual 68, 3) := by decide +kernel
theorem dX3_isTurned_50 : decode cX3_isTurned 50 = .ok (.iload 4, 2) := by decide +kernel
theorem dX3_isTurned_52 : decode cX3_isTurned 52 = .ok (.iload 9, 2) := by decide +kernel
theorem dX3_isTurned_54 : decode cX3_isTurned 54 = .ok (.imul, 1) := by decide +kernel
theorem dX3_isTurned_55 : decode cX3_isTurned 55 = .ok (.isub, 1) := by decide +kernel
theorem dX3_isTurned_56 : decode cX3_isTurned 56 = .ok (.iload 5, 2) := by decide +kernel
theorem dX3_isTurned_58 : decode cX3_isTurned 58 = .ok (.iload 8, 2) := by decide +kernel
theorem dX3_isTurned_60 : decode cX3_isTurned 60 = .ok (.imul, 1) := by decide +kernel
theorem dX3_isTurned_61 : decode cX3_isTurned 61 = .ok (.isub, 1) := by decide +kernel
theorem dX3_isTurned_62 : decode cX3_isTurned 62 = .ok (.iconst 3, 1) := by decide +kernel
theorem dX3_isTurned_63 : decode cX3_isTurned 63 = .ok (.iand, 1) := by decide +kernel
theorem dX3_isTurned_64 : decode cX3_isTurned 64 = .ok (.istore 10, 2) := by decide +kernel
theorem dX3_isTurned_66 : decode cX3_isTurned 66 = .ok (.iload 8, 2) := by decide +kernel
theorem dX3_isTurned_68 : decode cX3_isTurned 68 = .ok (.ifCond .ne 7, 3) := by decide +kernel
theorem dX3_isTurned_71 : decode cX3_isTurned 71 = .ok (.iload 10, 2) := by decide +kernel
theorem dX3_isTurned_73 : decode cX3_isTurned 73 = .ok (.istore 7, 2) := by decide +kernel
theorem dX3_isTurned_75 : decode cX3_isTurned 75 = .ok (.iload 10, 2) := by decide +kernel
theorem dX3_isTurned_77 : decode cX3_isTurned 77 = .ok (.iload 7, 2) := by decide +kernel
theorem dX3_isTurned_79 : decode cX3_isTurned 79 = .ok (.if_icmp .eq 5, 3) := by decide +kernel
theorem dX3_isTurned_82 : decode cX3_isTurned 82 = .ok (.iconst 0, 1) := by decide +kernel
theorem dX3_isTurned_83 : decode cX3_isTurned 83 = .ok (.ireturn, 1) := by decide +kernel
theorem dX3_isTurned_84 : decode cX3_isTurned 84 = .ok (.iinc 8 1, 3) := by decide +kernel
theorem dX3_isTurned_87 : decode cX3_isTurned 87 = .ok (.goto (-74), 3) := by decide +kernel
theorem dX3_isTurned_90 : decode cX3_isTurned 90 = .ok (.iconst 1, 1) := by decide +kernel
theorem dX3_isTurned_91 : decode cX3_isTurned 91 = .ok (.ireturn, 1) := by decide +kernel
theorem dX4_init_0 : decode cX4_init 0 = .ok (.aload_n 0, 1) := by decide +kernel
theorem dX4_init_1 : decode cX4_init 1 = .ok (.invokespecial 3, 3) := by decide +kernel
theorem dX4_init_4 : decode cX4_init 4 = .ok (.aload_n 0, 1) := by decide +kernel
theorem dX4_init_5 : decode cX4_init 5 = .ok (.aload_n 1, 1) := by decide +kernel
theorem dX4_init_6 : decode cX4_init 6 = .ok (.putfield 9, 3) := by decide +kernel
theorem dX4_init_9 : decode cX4_init 9 = .ok (.aload_n 0, 1) := by decide +kernel
theorem dX4_init_10 : decode cX4_init 10 = .ok (.aload_n 2, 1) := by decide +kernel
theorem dX4_init_11 : decode cX4_init 11 = .ok (.putfield 15, 3) := by decide +kernel
theorem dX4_init_14 : decode cX4_init 14 = .ok (.aload_n 0, 1) := by decide +kernel
theorem dX4_init_15 : decode cX4_init 15 = .ok (.bipush 24, 2) := by decide +kernel
theorem dX4_init_17 : decode cX4_init 17 = .ok (.newarray .int, 2) := by decide +kernel
theorem dX4_init_19 : decode cX4_init 19 = .ok (.putfield 21, 3) := by decide +kernel
theorem dX4_init_22 : decode cX4_init 22 = .ok (.aload_n 0, 1) := by decide +kernel
theorem dX4_init_23 : decode cX4_init 23 = .ok (.bipush 64, 2) := by decide +kernel
theorem dX4_init_25 : decode cX4_init 25 = .ok (.newarray .int, 2) := by decide +kernel
theorem dX4_init_27 : decode cX4_init 27 = .ok (.putfield 25, 3) := by decide +kernel
theorem dX4_init_30 : decode cX4_init 30 = .ok (.return_, 1) := by decide +kernel
theorem dX4_weigh_0 : decode cX4_weigh 0 = .ok (.aload_n 0, 1) := by decide +kernel
theorem dX4_weigh_1 : decode cX4_weigh 1 = .ok (.getfield 9, 3) := by decide +kernel
theorem dX4_weigh_4 : decode cX4_weigh 4 = .ok (.iload_n 1, 1) := by decide +kernel
theorem dX4_weigh_5 : decode cX4_weigh 5 = .ok (.invokevirtual 28, 3) := by decide +kernel
theorem dX4_weigh_8 : decode cX4_weigh 8 = .ok (.istore_n 3, 1) := by decide +kernel
theorem dX4_weigh_9 : decode cX4_weigh 9 = .ok (.iconst 0, 1) := by decide +kernel
theorem dX4_weigh_10 : decode cX4_weigh 10 = .ok (.istore 4, 2) := by decide +kernel
theorem dX4_weigh_12 : decode cX4_weigh 12 = .ok (.iload 4, 2) := by decide +kernel
theorem dX4_weigh_14 : decode cX4_weigh 14 = .ok (.iload_n 3, 1) := by decide +kernel
theorem dX4_weigh_15 : decode cX4_weigh 15 = .ok (.if_icmp .ge 47, 3) := by decide +kernel
theorem dX4_weigh_18 : decode cX4_weigh 18 = .ok (.iload 4, 2) := by decide +kernel
theorem dX4_weigh_20 : decode cX4_weigh 20 = .ok (.aload_n 0, 1) := by decide +kernel
theorem dX4_weigh_21 : decode cX4_weigh 21 = .ok (.getfield 21, 3) := by decide +kernel
theorem dX4_weigh_24 : decode cX4_weigh 24 = .ok (.arraylength, 1) := by decide +kernel
theorem dX4_weigh_25 : decode cX4_weigh 25 = .ok (.if_icmp .ge 37, 3) := by decide +kernel
theorem dX4_weigh_28 : decode cX4_weigh 28 = .ok (.aload_n 0, 1) := by decide +kernel
theorem dX4_weigh_29 : decode cX4_weigh 29 = .ok (.getfield 21, 3) := by decide +kernel
theorem dX4_weigh_32 : decode cX4_weigh 32 = .ok (.iload 4, 2) := by decide +kernel
theorem dX4_weigh_34 : decode cX4_weigh 34 = .ok (.aload_n 0, 1) := by decide +kernel
theorem dX4_weigh_35 : decode cX4_weigh 35 = .ok (.getfield 15, 3) := by decide +kernel
theorem dX4_weigh_38 : decode cX4_weigh 38 = .ok (.iload_n 2, 1) := by decide +kernel
theorem dX4_weigh_39 : decode cX4_weigh 39 = .ok (.iload 4, 2) := by decide +kernel
theorem dX4_weigh_41 : decode cX4_weigh 41 = .ok (.iload_n 3, 1) := by decide +kernel
theorem dX4_weigh_42 : decode cX4_weigh 42 = .ok (.aload_n 0, 1) := by decide +kernel
theorem dX4_weigh_43 : decode cX4_weigh 43 = .ok (.getfield 9, 3) := by decide +kernel
theorem dX4_weigh_46 : decode cX4_weigh 46 = .ok (.iload_n 1, 1) := by decide +kernel
theorem dX4_weigh_47 : decode cX4_weigh 47 = .ok (.iload 4, 2) := by decide +kernel
theorem dX4_weigh_49 : decode cX4_weigh 49 = .ok (.invokevirtual 32, 3) := by decide +kernel
theorem dX4_weigh_52 : decode cX4_weigh 52 = .ok (.invokevirtual 36, 3) := by decide +kernel
theorem dX4_weigh_55 : decode cX4_weigh 55 = .ok (.iastore, 1) := by decide +kernel
theorem dX4_weigh_56 : decode cX4_weigh 56 = .ok (.iinc 4 1, 3) := by decide +kernel
theorem dX4_weigh_59 : decode cX4_weigh 59 = .ok (.goto (-47), 3) := by decide +kernel
theorem dX4_weigh_62 : decode cX4_weigh 62 = .ok (.return_, 1) := by decide +kernel
theorem dX4_addMeeting_0 : decode cX4_addMeeting 0 = .ok (.aload_n 0, 1) := by decide +kernel
theorem dX4_addMeeting_1 : decode cX4_addMeeting 1 = .ok (.getfield 9, 3) := by decide +kernel
theorem dX4_addMeeting_4 : decode cX4_addMeeting 4 = .ok (.iload_n 1, 1) := by decide +kernel
theorem dX4_addMeeting_5 : decode cX4_addMeeting 5 = .ok (.invokevirtual 42, 3) := by decide +kernel
theorem dX4_addMeeting_8 : decode cX4_addMeeting 8 = .ok (.ifCond .eq 14, 3) := by decide +kernel
theorem dX4_addMeeting_11 : decode cX4_addMeeting 11 = .ok (.aload_n 0, 1) := by decide +kernel
theorem dX4_addMeeting_12 : decode cX4_addMeeting 12 = .ok (.getfield 9, 3) := by decide +kernel
theorem dX4_addMeeting_15 : decode cX4_addMeeting 15 = .ok (.iload_n 2, 1) := by decide +kernel
theorem dX4_addMeeting_16 : decode cX4_addMeeting 16 = .ok (.invokevirtual 42, 3) := by decide +kernel
theorem dX4_addMeeting_19 : decode cX4_addMeeting 19 = .ok (.ifCond .ne 4, 3) := by decide +kernel
theorem dX4_addMeeting_22 : decode cX4_addMeeting 22 = .ok (.return_, 1) := by decide +kernel
theorem dX4_addMeeting_23 : decode cX4_addMeeting 23 = .ok (.aload_n 0, 1) := by decide +kernel
theorem dX4_addMeeting_24 : decode cX4_addMeeting 24 = .ok (.getfield 9, 3) := by decide +kernel
theorem dX4_addMeeting_27 : decode cX4_addMeeting 27 = .ok (.getfield 46, 3) := by decide +kernel
theorem dX4_addMeeting_30 : decode cX4_addMeeting 30 = .ok (.astore 5, 2) := by decide +kernel
theorem dX4_addMeeting_32 : decode cX4_addMeeting 32 = .ok (.iconst 0, 1) := by decide +kernel
theorem dX4_addMeeting_33 : decode cX4_addMeeting 33 = .ok (.iload_n 3, 1) := by decide +kernel
theorem dX4_addMeeting_34 : decode cX4_addMeeting 34 = .ok (.invokestatic 49, 3) := by decide +kernel
theorem dX4_addMeeting_37 : decode cX4_addMeeting 37 = .ok (.istore 6, 2) := by decide +kernel
theorem dX4_addMeeting_39 : decode cX4_addMeeting 39 = .ok (.aload_n 0, 1) := by decide +kernel
theorem dX4_addMeeting_40 : decode cX4_addMeeting 40 = .ok (.getfield 9, 3) := by decide +kernel
theorem dX4_addMeeting_43 : decode cX4_addMeeting 43 = .ok (.iload_n 2, 1) := by decide +kernel
theorem dX4_addMeeting_44 : decode cX4_addMeeting 44 = .ok (.invokevirtual 28, 3) := by decide +kernel
theorem dX4_addMeeting_47 : decode cX4_addMeeting 47 = .ok (.aload_n 0, 1) := by decide +kernel
theorem dX4_addMeeting_48 : decode cX4_addMeeting 48 = .ok (.getfield 21, 3) := by decide +kernel
theorem dX4_addMeeting_51 : decode cX4_addMeeting 51 = .ok (.arraylength, 1) := by decide +kernel
theorem dX4_addMeeting_52 : decode cX4_addMeeting 52 = .ok (.invokestatic 54, 3) := by decide +kernel
theorem dX4_addMeeting_55 : decode cX4_addMeeting 55 = .ok (.istore 7, 2) := by decide +kernel
theorem dX4_addMeeting_57 : decode cX4_addMeeting 57 = .ok (.aload_n 0, 1) := by decide +kernel
theorem dX4_addMeeting_58 : decode cX4_addMeeting 58 = .ok (.getfield 9, 3) := by decide +kernel
theorem dX4_addMeeting_61 : decode cX4_addMeeting 61 = .ok (.iload_n 1, 1) := by decide +kernel
theorem dX4_addMeeting_62 : decode cX4_addMeeting 62 = .ok (.invokevirtual 28, 3) := by decide +kernel
theorem dX4_addMeeting_65 : decode cX4_addMeeting 65 = .ok (.bipush 24, 2) := by decide +kernel
theorem dX4_addMeeting_67 : decode cX4_addMeeting 67 = .ok (.invokestatic 54, 3) := by decide +kernel
theorem dX4_addMeeting_70 : decode cX4_addMeeting 70 = .ok (.iload 7, 2) := by decide +kernel
theorem dX4_addMeeting_72 : decode cX4_addMeeting 72 = .ok (.iload_n 3, 1) := by decide +kernel
theorem dX4_addMeeting_73 : decode cX4_addMeeting 73 = .ok (.iadd, 1) := by decide +kernel
theorem dX4_addMeeting_74 : decode cX4_addMeeting 74 = .ok (.invokestatic 54, 3) := by decide +kernel
theorem dX4_addMeeting_77 : decode cX4_addMeeting 77 = .ok (.istore 8, 2) := by decide +kernel
theorem dX4_addMeeting_79 : decode cX4_addMeeting 79 = .ok (.iload 6, 2) := by decide +kernel
theorem dX4_addMeeting_81 : decode cX4_addMeeting 81 = .ok (.istore 9, 2) := by decide +kernel
theorem dX4_addMeeting_83 : decode cX4_addMeeting 83 = .ok (.iload 9, 2) := by decide +kernel
theorem dX4_addMeeting_85 : decode cX4_addMeeting 85 = .ok (.iload 8, 2) := by decide +kernel
theorem dX4_addMeeting_87 : decode cX4_addMeeting 87 = .ok (.if_icmp .ge 123, 3) := by decide +kernel
theorem dX4_addMeeting_90 : decode cX4_addMeeting 90 = .ok (.aload_n 0, 1) := by decide +kernel
theorem dX4_addMeeting_91 : decode cX4_addMeeting 91 = .ok (.getfield 21, 3) := by decide +kernel
theorem dX4_addMeeting_94 : decode cX4_addMeeting 94 = .ok (.iload 9, 2) := by decide +kernel
theorem dX4_addMeeting_96 : decode cX4_addMeeting 96 = .ok (.iload_n 3, 1) := by decide +kernel
theorem dX4_addMeeting_97 : decode cX4_addMeeting 97 = .ok (.isub, 1) := by decide +kernel
theorem dX4_addMeeting_98 : decode cX4_addMeeting 98 = .ok (.iaload, 1) := by decide +kernel
theorem dX4_addMeeting_99 : decode cX4_addMeeting 99 = .ok (.istore 10, 2) := by decide +kernel
theorem dX4_addMeeting_101 : decode cX4_addMeeting 101 = .ok (.aload 5, 2) := by decide +kernel
theorem dX4_addMeeting_103 : decode cX4_addMeeting 103 = .ok (.iload_n 1, 1) := by decide +kernel
theorem dX4_addMeeting_104 : decode cX4_addMeeting 104 = .ok (.bipush 24, 2) := by decide +kernel
theorem dX4_addMeeting_106 : decode cX4_addMeeting 106 = .ok (.imul, 1) := by decide +kernel
theorem dX4_addMeeting_107 : decode cX4_addMeeting 107 = .ok (.iload 9, 2) := by decide +kernel
theorem dX4_addMeeting_109 : decode cX4_addMeeting 109 = .ok (.iadd, 1) := by decide +kernel
theorem dX4_addMeeting_110 : decode cX4_addMeeting 110 = .ok (.iaload, 1) := by decide +kernel
theorem dX4_addMeeting_111 : decode cX4_addMeeting 111 = .ok (.iload 4, 2) := by decide +kernel
theorem dX4_addMeeting_113 : decode cX4_addMeeting 113 = .ok (.iload 9, 2) := by decide +kernel
theorem dX4_addMeeting_115 : decode cX4_addMeeting 115 = .ok (.imul, 1) := by decide +kernel
theorem dX4_addMeeting_116 : decode cX4_addMeeting 116 = .ok (.iadd, 1) := by decide +kernel
theorem dX4_addMeeting_117 : decode cX4_addMeeting 117 = .ok (.aload 5, 2) := by decide +kernel
theorem dX4_addMeeting_119 : decode cX4_addMeeting 119 = .ok (.iload_n 2, 1) := by decide +kernel
theorem dX4_addMeeting_120 : decode cX4_addMeeting 120 = .ok (.bipush 24, 2) := by decide +kernel
theorem dX4_addMeeting_122 : decode cX4_addMeeting 122 = .ok (.imul, 1) := by decide +kernel
theorem dX4_addMeeting_123 : decode cX4_addMeeting 123 = .ok (.iload 9, 2) := by decide +kernel
theorem dX4_addMeeting_125 : decode cX4_addMeeting 125 = .ok (.iadd, 1) := by decide +kernel
theorem dX4_addMeeting_126 : decode cX4_addMeeting 126 = .ok (.iload_n 3, 1) := by decide +kernel
theorem dX4_addMeeting_127 : decode cX4_addMeeting 127 = .ok (.isub, 1) := by decide +kernel
theorem dX4_addMeeting_128 : decode cX4_addMeeting 128 = .ok (.iaload, 1) := by decide +kernel
theorem dX4_addMeeting_129 : decode cX4_addMeeting 129 = .ok (.isub, 1) := by decide +kernel
theorem dX4_addMeeting_130 : decode cX4_addMeeting 130 = .ok (.iconst 3, 1) := by decide +kernel
theorem dX4_addMeeting_131 : decode cX4_addMeeting 131 = .ok (.iand, 1) := by decide +kernel
theorem dX4_addMeeting_132 : decode cX4_addMeeting 132 = .ok (.istore 11, 2) := by decide +kernel
theorem dX4_addMeeting_134 : decode cX4_addMeeting 134 = .ok (.iload 11, 2) := by decide +kernel
theorem dX4_addMeeting_136 : decode cX4_addMeeting 136 = .ok (.ifCond .ne 17, 3) := by decide +kernel
theorem dX4_addMeeting_139 : decode cX4_addMeeting 139 = .ok (.aload_n 0, 1) := by decide +kernel
theorem dX4_addMeeting_140 : decode cX4_addMeeting 140 = .ok (.dup, 1) := by decide +kernel
theorem dX4_addMeeting_141 : decode cX4_addMeeting 141 = .ok (.getfield 57, 3) := by decide +kernel
theorem dX4_addMeeting_144 : decode cX4_addMeeting 144 = .ok (.iload 10, 2) := by decide +kernel
theorem dX4_addMeeting_146 : decode cX4_addMeeting 146 = .ok (.iadd, 1) := by decide +kernel
theorem dX4_addMeeting_147 : decode cX4_addMeeting 147 = .ok (.putfield 57, 3) := by decide +kernel
theorem dX4_addMeeting_150 : decode cX4_addMeeting 150 = .ok (.goto 54, 3) := by decide +kernel
theorem dX4_addMeeting_153 : decode cX4_addMeeting 153 = .ok (.iload 11, 2) := by decide +kernel
theorem dX4_addMeeting_155 : decode cX4_addMeeting 155 = .ok (.iconst 1, 1) := by decide +kernel
theorem dX4_addMeeting_156 : decode cX4_addMeeting 156 = .ok (.if_icmp .ne 17, 3) := by decide +kernel
theorem dX4_addMeeting_159 : decode cX4_addMeeting 159 = .ok (.aload_n 0, 1) := by decide +kernel
theorem dX4_addMeeting_160 : decode cX4_addMeeting 160 = .ok (.dup, 1) := by decide +kernel
theorem dX4_addMeeting_161 : decode cX4_addMeeting 161 = .ok (.getfield 61, 3) := by decide +kernel
theorem dX4_addMeeting_164 : decode cX4_addMeeting 164 = .ok (.iload 10, 2) := by decide +kernel
theorem dX4_addMeeting_166 : decode cX4_addMeeting 166 = .ok (.iadd, 1) := by decide +kernel
theorem dX4_addMeeting_167 : decode cX4_addMeeting 167 = .ok (.putfield 61, 3) := by decide +kernel
theorem dX4_addMeeting_170 : decode cX4_addMeeting 170 = .ok (.goto 34, 3) := by decide +kernel
theorem dX4_addMeeting_173 : decode cX4_addMeeting 173 = .ok (.iload 11, 2) := by decide +kernel
theorem dX4_addMeeting_175 : decode cX4_addMeeting 175 = .ok (.iconst 2, 1) := by decide +kernel
theorem dX4_addMeeting_176 : decode cX4_addMeeting 176 = .ok (.if_icmp .ne 17, 3) := by decide +kernel
theorem dX4_addMeeting_179 : decode cX4_addMeeting 179 = .ok (.aload_n 0, 1) := by decide +kernel
theorem dX4_addMeeting_180 : decode cX4_addMeeting 180 = .ok (.dup, 1) := by decide +kernel
theorem dX4_addMeeting_181 : decode cX4_addMeeting 181 = .ok (.getfield 57, 3) := by decide +kernel
theorem dX4_addMeeting_184 : decode cX4_addMeeting 184 = .ok (.iload 10, 2) := by decide +kernel
theorem dX4_addMeeting_186 : decode cX4_addMeeting 186 = .ok (.isub, 1) := by decide +kernel
theorem dX4_addMeeting_187 : decode cX4_addMeeting 187 = .ok (.putfield 57, 3) := by decide +kernel
theorem dX4_addMeeting_190 : decode cX4_addMeeting 190 = .ok (.goto 14, 3) := by decide +kernel
theorem dX4_addMeeting_193 : decode cX4_addMeeting 193 = .ok (.aload_n 0, 1) := by decide +kernel
theorem dX4_addMeeting_194 : decode cX4_addMeeting 194 = .ok (.dup, 1) := by decide +kernel
theorem dX4_addMeeting_195 : decode cX4_addMeeting 195 = .ok (.getfield 61, 3) := by decide +kernel
theorem dX4_addMeeting_198 : decode cX4_addMeeting 198 = .ok (.iload 10, 2) := by decide +kernel
theorem dX4_addMeeting_200 : decode cX4_addMeeting 200 = .ok (.isub, 1) := by decide +kernel
theorem dX4_addMeeting_201 : decode cX4_addMeeting 201 = .ok (.putfield 61, 3) := by decide +kernel
theorem dX4_addMeeting_204 : decode cX4_addMeeting 204 = .ok (.iinc 9 1, 3) := by decide +kernel
theorem dX4_addMeeting_207 : decode cX4_addMeeting 207 = .ok (.goto (-124), 3) := by decide +kernel
theorem dX4_addMeeting_210 : decode cX4_addMeeting 210 = .ok (.return_, 1) := by decide +kernel
theorem dX4_power_0 : decode cX4_power 0 = .ok (.aload_n 0, 1) := by decide +kernel
theorem dX4_power_1 : decode cX4_power 1 = .ok (.getfield 57, 3) := by decide +kernel
theorem dX4_power_4 : decode cX4_power 4 = .ok (.aload_n 0, 1) := by decide +kernel
theorem dX4_power_5 : decode cX4_power 5 = .ok (.getfield 57, 3) := by decide +kernel
theorem dX4_power_8 : decode cX4_power 8 = .ok (.imul, 1) := by decide +kernel
theorem dX4_power_9 : decode cX4_power 9 = .ok (.aload_n 0, 1) := by decide +kernel
theorem dX4_power_10 : decode cX4_power 10 = .ok (.getfield 61, 3) := by decide +kernel
theorem dX4_power_13 : decode cX4_power 13 = .ok (.aload_n 0, 1) := by decide +kernel
theorem dX4_power_14 : decode cX4_power 14 = .ok (.getfield 61, 3) := by decide +kernel
theorem dX4_power_17 : decode cX4_power 17 = .ok (.imul, 1) := by decide +kernel
theorem dX4_power_18 : decode cX4_power 18 = .ok (.iadd, 1) := by decide +kernel
theorem dX4_power_19 : decode cX4_power 19 = .ok (.ireturn, 1) := by decide +kernel
theorem dX4_powerOf_0 : decode cX4_powerOf 0 = .ok (.aload_n 0, 1) := by decide +kernel
theorem dX4_powerOf_1 : decode cX4_powerOf 1 = .ok (.iconst 0, 1) := by decide +kernel
theorem dX4_powerOf_2 : decode cX4_powerOf 2 = .ok (.putfield 57, 3) := by decide +kernel
theorem dX4_powerOf_5 : decode cX4_powerOf 5 = .ok (.aload_n 0, 1) := by decide +kernel
theorem dX4_powerOf_6 : decode cX4_powerOf 6 = .ok (.iconst 0, 1) := by decide +kernel
theorem dX4_powerOf_7 : decode cX4_powerOf 7 = .ok (.putfield 61, 3) := by decide +kernel
theorem dX4_powerOf_10 : decode cX4_powerOf 10 = .ok (.aload_n 0, 1) := by decide +kernel
theorem dX4_powerOf_11 : decode cX4_powerOf 11 = .ok (.iload_n 1, 1) := by decide +kernel
theorem dX4_powerOf_12 : decode cX4_powerOf 12 = .ok (.iload_n 2, 1) := by decide +kernel
theorem dX4_powerOf_13 : decode cX4_powerOf 13 = .ok (.iload_n 3, 1) := by decide +kernel
theorem dX4_powerOf_14 : decode cX4_powerOf 14 = .ok (.iload 4, 2) := by decide +kernel
theorem dX4_powerOf_16 : decode cX4_powerOf 16 = .ok (.invokevirtual 64, 3) := by decide +kernel
theorem dX4_powerOf_19 : decode cX4_powerOf 19 = .ok (.aload_n 0, 1) := by decide +kernel
theorem dX4_powerOf_20 : decode cX4_powerOf 20 = .ok (.invokevirtual 68, 3) := by decide +kernel
theorem dX4_powerOf_23 : decode cX4_powerOf 23 = .ok (.ireturn, 1) := by decide +kernel
theorem dX4_peak_0 : decode cX4_peak 0 = .ok (.aload_n 0, 1) := by decide +kernel
theorem dX4_peak_1 : decode cX4_peak 1 = .ok (.iload_n 1, 1) := by decide +kernel
theorem dX4_peak_2 : decode cX4_peak 2 = .ok (.iload_n 1, 1) := by decide +kernel
theorem dX4_peak_3 : decode cX4_peak 3 = .ok (.iconst 0, 1) := by decide +kernel
theorem dX4_peak_4 : decode cX4_peak 4 = .ok (.iconst 0, 1) := by decide +kernel
theorem dX4_peak_5 : decode cX4_peak 5 = .ok (.invokevirtual 72, 3) := by decide +kernel
theorem dX4_peak_8 : decode cX4_peak 8 = .ok (.ireturn, 1) := by decide +kernel
theorem dX4_side_0 : decode cX4_side 0 = .ok (.iconst 0, 1) := by decide +kernel
theorem dX4_side_1 : decode cX4_side 1 = .ok (.istore_n 2, 1) := by decide +kernel
theorem dX4_side_2 : decode cX4_side 2 = .ok (.iconst 1, 1) := by decide +kernel
theorem dX4_side_3 : decode cX4_side 3 = .ok (.istore_n 3, 1) := by decide +kernel
theorem dX4_side_4 : decode cX4_side 4 = .ok (.iload_n 3, 1) := by decide +kernel
theorem dX4_side_5 : decode cX4_side 5 = .ok (.aload_n 0, 1) := by decide +kernel
theorem dX4_side_6 : decode cX4_side 6 = .ok (.getfield 9, 3) := by decide +kernel
theorem dX4_side_9 : decode cX4_side 9 = .ok (.iload_n 1, 1) := by decide +kernel
theorem dX4_side_10 : decode cX4_side 10 = .ok (.invokevirtual 28, 3) := by decide +kernel
theorem dX4_side_13 : decode cX4_side 13 = .ok (.if_icmp .ge 36, 3) := by decide +kernel
theorem dX4_side_16 : decode cX4_side 16 = .ok (.iload_n 2, 1) := by decide +kernel
theorem dX4_side_17 : decode cX4_side 17 = .ok (.aload_n 0, 1) := by decide +kernel
theorem dX4_side_18 : decode cX4_side 18 = .ok (.iload_n 1, 1) := by decide +kernel
theorem dX4_side_19 : decode cX4_side 19 = .ok (.iload_n 1, 1) := by decide +kernel
theorem dX4_side_20 : decode cX4_side 20 = .ok (.iload_n 3, 1) := by decide +kernel
theorem dX4_side_21 : decode cX4_side 21 = .ok (.iconst 0, 1) := by decide +kernel
theorem dX4_side_22 : decode cX4_side 22 = .ok (.invokevirtual 72, 3) := by decide +kernel
theorem dX4_side_25 : decode cX4_side 25 = .ok (.invokestatic 49, 3) := by decide +kernel
theorem dX4_side_28 : decode cX4_side 28 = .ok (.istore_n 2, 1) := by decide +kernel
theorem dX4_side_29 : decode cX4_side 29 = .ok (.iload_n 2, 1) := by decide +kernel
theorem dX4_side_30 : decode cX4_side 30 = .ok (.aload_n 0, 1) := by decide +kernel
theorem dX4_side_31 : decode cX4_side 31 = .ok (.iload_n 1, 1) := by decide +kernel
theorem dX4_side_32 : decode cX4_side 32 = .ok (.iload_n 1, 1) := by decide +kernel
theorem dX4_side_33 : decode cX4_side 33 = .ok (.iload_n 3, 1) := by decide +kernel
theorem dX4_side_34 : decode cX4_side 34 = .ok (.ineg, 1) := by decide +kernel
theorem dX4_side_35 : decode cX4_side 35 = .ok (.iconst 0, 1) := by decide +kernel
theorem dX4_side_36 : decode cX4_side 36 = .ok (.invokevirtual 72, 3) := by decide +kernel
theorem dX4_side_39 : decode cX4_side 39 = .ok (.invokestatic 49, 3) := by decide +kernel
theorem dX4_side_42 : decode cX4_side 42 = .ok (.istore_n 2, 1) := by decide +kernel
theorem dX4_side_43 : decode cX4_side 43 = .ok (.iinc 3 1, 3) := by decide +kernel
theorem dX4_side_46 : decode cX4_side 46 = .ok (.goto (-42), 3) := by decide +kernel
theorem dX4_side_49 : decode cX4_side 49 = .ok (.iload_n 2, 1) := by decide +kernel
theorem dX4_side_50 : decode cX4_side 50 = .ok (.ireturn, 1) := by decide +kernel
theorem dX4_sides_0 : decode cX4_sides 0 = .ok (.iconst 0, 1) := by decide +kernel
theorem dX4_sides_1 : decode cX4_sides 1 = .ok (.istore_n 2, 1) := by decide +kernel
theorem dX4_sides_2 : decode cX4_sides 2 = .ok (.iconst 1, 1) := by decide +kernel
theorem dX4_sides_3 : decode cX4_sides 3 = .ok (.istore_n 3, 1) := by decide +kernel
theorem dX4_sides_4 : decode cX4_sides 4 = .ok (.iload_n 3, 1) := by decide +kernel
theorem dX4_sides_5 : decode cX4_sides 5 = .ok (.aload_n 0, 1) := by decide +kernel
theorem dX4_sides_6 : decode cX4_sides 6 = .ok (.getfield 9, 3) := by decide +kernel
theorem dX4_sides_9 : decode cX4_sides 9 = .ok (.iload_n 1, 1) := by decide +kernel
theorem dX4_sides_10 : decode cX4_sides 10 = .ok (.invokevirtual 28, 3) := by decide +kernel
theorem dX4_sides_13 : decode cX4_sides 13 = .ok (.if_icmp .ge 30, 3) := by decide +kernel
theorem dX4_sides_16 : decode cX4_sides 16 = .ok (.iload_n 2, 1) := by decide +kernel
theorem dX4_sides_17 : decode cX4_sides 17 = .ok (.aload_n 0, 1) := by decide +kernel
theorem dX4_sides_18 : decode cX4_sides 18 = .ok (.iload_n 1, 1) := by decide +kernel
theorem dX4_sides_19 : decode cX4_sides 19 = .ok (.iload_n 1, 1) := by decide +kernel
theorem dX4_sides_20 : decode cX4_sides 20 = .ok (.iload_n 3, 1) := by decide +kernel
theorem dX4_sides_21 : decode cX4_sides 21 = .ok (.iconst 0, 1) := by decide +kernel
theorem dX4_sides_22 : decode cX4_sides 22 = .ok (.invokevirtual 72, 3) := by decide +kernel
theorem dX4_sides_25 : decode cX4_sides 25 = .ok (.aload_n 0, 1) := by decide +kernel
theorem dX4_sides_26 : decode cX4_sides 26 = .ok (.iload_n 1, 1) := by decide +kernel
theorem dX4_sides_27 : decode cX4_sides 27 = .ok (.iload_n 1, 1) := by decide +kernel
theorem dX4_sides_28 : decode cX4_sides 28 = .ok (.iload_n 3, 1) := by decide +kernel
theorem dX4_sides_29 : decode cX4_sides 29 = .ok (.ineg, 1) := by decide +kernel
theorem dX4_sides_30 : decode cX4_sides 30 = .ok (.iconst 0, 1) := by decide +kernel
theorem dX4_sides_31 : decode cX4_sides 31 = .ok (.invokevirtual 72, 3) := by decide +kernel
theorem dX4_sides_34 : decode cX4_sides 34 = .ok (.iadd, 1) := by decide +kernel
theorem dX4_sides_35 : decode cX4_sides 35 = .ok (.iadd, 1) := by decide +kernel
theorem dX4_sides_36 : decode cX4_sides 36 = .ok (.istore_n 2, 1) := by decide +kernel
theorem dX4_sides_37 : decode cX4_sides 37 = .ok (.iinc 3 1, 3) := by decide +kernel
theorem dX4_sides_40 : decode cX4_sides 40 = .ok (.goto (-36), 3) := by decide +kernel
theorem dX4_sides_43 : decode cX4_sides 43 = .ok (.iload_n 2, 1) := by decide +kernel
theorem dX4_sides_44 : decode cX4_sides 44 = .ok (.ireturn, 1) := by decide +kernel
theorem dX4_leak_0 : decode cX4_leak 0 = .ok (.iconst 0, 1) := by decide +kernel
theorem dX4_leak_1 : decode cX4_leak 1 = .ok (.istore_n 2, 1) := by decide +kernel
theorem dX4_leak_2 : decode cX4_leak 2 = .ok (.iconst 1, 1) := by decide +kernel
theorem dX4_leak_3 : decode cX4_leak 3 = .ok (.istore_n 3, 1) := by decide +kernel
theorem dX4_leak_4 : decode cX4_leak 4 = .ok (.iload_n 3, 1) := by decide +kernel
theorem dX4_leak_5 : decode cX4_leak 5 = .ok (.iconst 3, 1) := by decide +kernel
theorem dX4_leak_6 : decode cX4_leak 6 = .ok (.if_icmp .gt 21, 3) := by decide +kernel
theorem dX4_leak_9 : decode cX4_leak 9 = .ok (.iload_n 2, 1) := by decide +kernel
theorem dX4_leak_10 : decode cX4_leak 10 = .ok (.aload_n 0, 1) := by decide +kernel
theorem dX4_leak_11 : decode cX4_leak 11 = .ok (.iload_n 1, 1) := by decide +kernel
theorem dX4_leak_12 : decode cX4_leak 12 = .ok (.iload_n 1, 1) := by decide +kernel
theorem dX4_leak_13 : decode cX4_leak 13 = .ok (.iload_n 3, 1) := by decide +kernel
theorem dX4_leak_14 : decode cX4_leak 14 = .ok (.invokevirtual 75, 3) := by decide +kernel
theorem dX4_leak_17 : decode cX4_leak 17 = .ok (.invokestatic 49, 3) := by decide +kernel
theorem dX4_leak_20 : decode cX4_leak 20 = .ok (.istore_n 2, 1) := by decide +kernel
theorem dX4_leak_21 : decode cX4_leak 21 = .ok (.iinc 3 1, 3) := by decide +kernel
theorem dX4_leak_24 : decode cX4_leak 24 = .ok (.goto (-20), 3) := by decide +kernel
theorem dX4_leak_27 : decode cX4_leak 27 = .ok (.iload_n 2, 1) := by decide +kernel
theorem dX4_leak_28 : decode cX4_leak 28 = .ok (.ireturn, 1) := by decide +kernel
theorem dX4_loss_0 : decode cX4_loss 0 = .ok (.aload_n 0, 1) := by decide +kernel
theorem dX4_loss_1 : decode cX4_loss 1 = .ok (.getfield 9, 3) := by decide +kernel
theorem dX4_loss_4 : decode cX4_loss 4 = .ok (.iload_n 1, 1) := by decide +kernel
theorem dX4_loss_5 : decode cX4_loss 5 = .ok (.invokevirtual 28, 3) := by decide +kernel
theorem dX4_loss_8 : decode cX4_loss 8 = .ok (.istore_n 3, 1) := by decide +kernel
theorem dX4_loss_9 : decode cX4_loss 9 = .ok (.iconst 0, 1) := by decide +kernel
theorem dX4_loss_10 : decode cX4_loss 10 = .ok (.istore 4, 2) := by decide +kernel
theorem dX4_loss_12 : decode cX4_loss 12 = .ok (.iconst 0, 1) := by decide +kernel
theorem dX4_loss_13 : decode cX4_loss 13 = .ok (.istore 5, 2) := by decide +kernel
theorem dX4_loss_15 : decode cX4_loss 15 = .ok (.iload 5, 2) := by decide +kernel
theorem dX4_loss_17 : decode cX4_loss 17 = .ok (.iload_n 3, 1) := by decide +kernel
theorem dX4_loss_18 : decode cX4_loss 18 = .ok (.if_icmp .ge 39, 3) := by decide +kernel
theorem dX4_loss_21 : decode cX4_loss 21 = .ok (.iload 5, 2) := by decide +kernel
theorem dX4_loss_23 : decode cX4_loss 23 = .ok (.aload_n 0, 1) := by decide +kernel
theorem dX4_loss_24 : decode cX4_loss 24 = .ok (.getfield 21, 3) := by decide +kernel
theorem dX4_loss_27 : decode cX4_loss 27 = .ok (.arraylength, 1) := by decide +kernel
theorem dX4_loss_28 : decode cX4_loss 28 = .ok (.if_icmp .ge 29, 3) := by decide +kernel
theorem dX4_loss_31 : decode cX4_loss 31 = .ok (.iload 4, 2) := by decide +kernel
theorem dX4_loss_33 : decode cX4_loss 33 = .ok (.aload_n 0, 1) := by decide +kernel
theorem dX4_loss_34 : decode cX4_loss 34 = .ok (.getfield 21, 3) := by decide +kernel
theorem dX4_loss_37 : decode cX4_loss 37 = .ok (.iload 5, 2) := by decide +kernel
theorem dX4_loss_39 : decode cX4_loss 39 = .ok (.iaload, 1) := by decide +kernel
theorem dX4_loss_40 : decode cX4_loss 40 = .ok (.aload_n 0, 1) := by decide +kernel
theorem dX4_loss_41 : decode cX4_loss 41 = .ok (.getfield 21, 3) := by decide +kernel
theorem dX4_loss_44 : decode cX4_loss 44 = .ok (.iload 5, 2) := by decide +kernel
theorem dX4_loss_46 : decode cX4_loss 46 = .ok (.iaload, 1) := by decide +kernel
theorem dX4_loss_47 : decode cX4_loss 47 = .ok (.imul, 1) := by decide +kernel
theorem dX4_loss_48 : decode cX4_loss 48 = .ok (.iadd, 1) := by decide +kernel
theorem dX4_loss_49 : decode cX4_loss 49 = .ok (.istore 4, 2) := by decide +kernel
theorem dX4_loss_51 : decode cX4_loss 51 = .ok (.iinc 5 1, 3) := by decide +kernel
theorem dX4_loss_54 : decode cX4_loss 54 = .ok (.goto (-39), 3) := by decide +kernel
theorem dX4_loss_57 : decode cX4_loss 57 = .ok (.iload_n 3, 1) := by decide +kernel
theorem dX4_loss_58 : decode cX4_loss 58 = .ok (.i2l, 1) := by decide +kernel
theorem dX4_loss_59 : decode cX4_loss 59 = .ok (.iload 4, 2) := by decide +kernel
theorem dX4_loss_61 : decode cX4_loss 61 = .ok (.i2l, 1) := by decide +kernel
theorem dX4_loss_62 : decode cX4_loss 62 = .ok (.lmul, 1) := by decide +kernel
theorem dX4_loss_63 : decode cX4_loss 63 = .ok (.lstore 5, 2) := by decide +kernel
theorem dX4_loss_65 : decode cX4_loss 65 = .ok (.lload 5, 2) := by decide +kernel
theorem dX4_loss_67 : decode cX4_loss 67 = .ok (.lconst 0, 1) := by decide +kernel
theorem dX4_loss_68 : decode cX4_loss 68 = .ok (.lcmp, 1) := by decide +kernel
theorem dX4_loss_69 : decode cX4_loss 69 = .ok (.ifCond .ne 7, 3) := by decide +kernel
theorem dX4_loss_72 : decode cX4_loss 72 = .ok (.iconst 0, 1) := by decide +kernel
theorem dX4_loss_73 : decode cX4_loss 73 = .ok (.goto 13, 3) := by decide +kernel
theorem dX4_loss_76 : decode cX4_loss 76 = .ok (.ldc2_w 79, 3) := by decide +kernel
theorem dX4_loss_79 : decode cX4_loss 79 = .ok (.iload_n 2, 1) := by decide +kernel
theorem dX4_loss_80 : decode cX4_loss 80 = .ok (.i2l, 1) := by decide +kernel
theorem dX4_loss_81 : decode cX4_loss 81 = .ok (.lmul, 1) := by decide +kernel
theorem dX4_loss_82 : decode cX4_loss 82 = .ok (.lload 5, 2) := by decide +kernel
theorem dX4_loss_84 : decode cX4_loss 84 = .ok (.ldiv, 1) := by decide +kernel
theorem dX4_loss_85 : decode cX4_loss 85 = .ok (.l2i, 1) := by decide +kernel
theorem dX4_loss_86 : decode cX4_loss 86 = .ok (.ireturn, 1) := by decide +kernel
theorem dX4_greatestOf_0 : decode cX4_greatestOf 0 = .ok (.iconst 0, 1) := by decide +kernel
theorem dX4_greatestOf_1 : decode cX4_greatestOf 1 = .ok (.istore 4, 2) := by decide +kernel
theorem dX4_greatestOf_3 : decode cX4_greatestOf 3 = .ok (.iconst 1, 1) := by decide +kernel
theorem dX4_greatestOf_4 : decode cX4_greatestOf 4 = .ok (.aload_n 0, 1) := by decide +kernel
theorem dX4_greatestOf_5 : decode cX4_greatestOf 5 = .ok (.getfield 9, 3) := by decide +kernel
theorem dX4_greatestOf_8 : decode cX4_greatestOf 8 = .ok (.iload_n 2, 1) := by decide +kernel
theorem dX4_greatestOf_9 : decode cX4_greatestOf 9 = .ok (.invokevirtual 28, 3) := by decide +kernel
theorem dX4_greatestOf_12 : decode cX4_greatestOf 12 = .ok (.isub, 1) := by decide +kernel
theorem dX4_greatestOf_13 : decode cX4_greatestOf 13 = .ok (.istore 5, 2) := by decide +kernel
theorem dX4_greatestOf_15 : decode cX4_greatestOf 15 = .ok (.iload 5, 2) := by decide +kernel
theorem dX4_greatestOf_17 : decode cX4_greatestOf 17 = .ok (.aload_n 0, 1) := by decide +kernel
theorem dX4_greatestOf_18 : decode cX4_greatestOf 18 = .ok (.getfield 9, 3) := by decide +kernel
theorem dX4_greatestOf_21 : decode cX4_greatestOf 21 = .ok (.iload_n 1, 1) := by decide +kernel
theorem dX4_greatestOf_22 : decode cX4_greatestOf 22 = .ok (.invokevirtual 28, 3) := by decide +kernel
theorem dX4_greatestOf_25 : decode cX4_greatestOf 25 = .ok (.if_icmp .ge 25, 3) := by decide +kernel
theorem dX4_greatestOf_28 : decode cX4_greatestOf 28 = .ok (.iload 4, 2) := by decide +kernel
theorem dX4_greatestOf_30 : decode cX4_greatestOf 30 = .ok (.aload_n 0, 1) := by decide +kernel
theorem dX4_greatestOf_31 : decode cX4_greatestOf 31 = .ok (.iload_n 1, 1) := by decide +kernel
theorem dX4_greatestOf_32 : decode cX4_greatestOf 32 = .ok (.iload_n 2, 1) := by decide +kernel
theorem dX4_greatestOf_33 : decode cX4_greatestOf 33 = .ok (.iload 5, 2) := by decide +kernel
theorem dX4_greatestOf_35 : decode cX4_greatestOf 35 = .ok (.iload_n 3, 1) := by decide +kernel
theorem dX4_greatestOf_36 : decode cX4_greatestOf 36 = .ok (.invokevirtual 72, 3) := by decide +kernel
theorem dX4_greatestOf_39 : decode cX4_greatestOf 39 = .ok (.invokestatic 49, 3) := by decide +kernel
theorem dX4_greatestOf_42 : decode cX4_greatestOf 42 = .ok (.istore 4, 2) := by decide +kernel
theorem dX4_greatestOf_44 : decode cX4_greatestOf 44 = .ok (.iinc 5 1, 3) := by decide +kernel
theorem dX4_greatestOf_47 : decode cX4_greatestOf 47 = .ok (.goto (-32), 3) := by decide +kernel
theorem dX4_greatestOf_50 : decode cX4_greatestOf 50 = .ok (.iload 4, 2) := by decide +kernel
theorem dX4_greatestOf_52 : decode cX4_greatestOf 52 = .ok (.ireturn, 1) := by decide +kernel
theorem dX4_learn_0 : decode cX4_learn 0 = .ok (.aload_n 0, 1) := by decide +kernel
theorem dX4_learn_1 : decode cX4_learn 1 = .ok (.getfield 9, 3) := by decide +kernel
theorem dX4_learn_4 : decode cX4_learn 4 = .ok (.iload_n 1, 1) := by decide +kernel
theorem dX4_learn_5 : decode cX4_learn 5 = .ok (.invokevirtual 42, 3) := by decide +kernel
theorem dX4_learn_8 : decode cX4_learn 8 = .ok (.ifCond .ne 4, 3) := by decide +kernel
theorem dX4_learn_11 : decode cX4_learn 11 = .ok (.return_, 1) := by decide +kernel
theorem dX4_learn_12 : decode cX4_learn 12 = .ok (.iconst 0, 1) := by decide +kernel
theorem dX4_learn_13 : decode cX4_learn 13 = .ok (.istore_n 2, 1) := by decide +kernel
theorem dX4_learn_14 : decode cX4_learn 14 = .ok (.iload_n 2, 1) := by decide +kernel
theorem dX4_learn_15 : decode cX4_learn 15 = .ok (.iload_n 1, 1) := by decide +kernel
theorem dX4_learn_16 : decode cX4_learn 16 = .ok (.if_icmp .gt 47, 3) := by decide +kernel
theorem dX4_learn_19 : decode cX4_learn 19 = .ok (.aload_n 0, 1) := by decide +kernel
theorem dX4_learn_20 : decode cX4_learn 20 = .ok (.iload_n 2, 1) := by decide +kernel
theorem dX4_learn_21 : decode cX4_learn 21 = .ok (.iconst (-1), 1) := by decide +kernel
theorem dX4_learn_22 : decode cX4_learn 22 = .ok (.invokevirtual 81, 3) := by decide +kernel
theorem dX4_learn_25 : decode cX4_learn 25 = .ok (.aload_n 0, 1) := by decide +kernel
theorem dX4_learn_26 : decode cX4_learn 26 = .ok (.iload_n 1, 1) := by decide +kernel
theorem dX4_learn_27 : decode cX4_learn 27 = .ok (.iload_n 2, 1) := by decide +kernel
theorem dX4_learn_28 : decode cX4_learn 28 = .ok (.iconst 0, 1) := by decide +kernel
theorem dX4_learn_29 : decode cX4_learn 29 = .ok (.invokevirtual 75, 3) := by decide +kernel
theorem dX4_learn_32 : decode cX4_learn 32 = .ok (.istore_n 3, 1) := by decide +kernel
theorem dX4_learn_33 : decode cX4_learn 33 = .ok (.aload_n 0, 1) := by decide +kernel
theorem dX4_learn_34 : decode cX4_learn 34 = .ok (.getfield 25, 3) := by decide +kernel
theorem dX4_learn_37 : decode cX4_learn 37 = .ok (.iload_n 1, 1) := by decide +kernel
theorem dX4_learn_38 : decode cX4_learn 38 = .ok (.bipush 8, 2) := by decide +kernel
theorem dX4_learn_40 : decode cX4_learn 40 = .ok (.imul, 1) := by decide +kernel
theorem dX4_learn_41 : decode cX4_learn 41 = .ok (.iload_n 2, 1) := by decide +kernel
theorem dX4_learn_42 : decode cX4_learn 42 = .ok (.iadd, 1) := by decide +kernel
theorem dX4_learn_43 : decode cX4_learn 43 = .ok (.iload_n 3, 1) := by decide +kernel
theorem dX4_learn_44 : decode cX4_learn 44 = .ok (.iastore, 1) := by decide +kernel
theorem dX4_learn_45 : decode cX4_learn 45 = .ok (.aload_n 0, 1) := by decide +kernel
theorem dX4_learn_46 : decode cX4_learn 46 = .ok (.getfield 25, 3) := by decide +kernel
theorem dX4_learn_49 : decode cX4_learn 49 = .ok (.iload_n 2, 1) := by decide +kernel
theorem dX4_learn_50 : decode cX4_learn 50 = .ok (.bipush 8, 2) := by decide +kernel
theorem dX4_learn_52 : decode cX4_learn 52 = .ok (.imul, 1) := by decide +kernel
theorem dX4_learn_53 : decode cX4_learn 53 = .ok (.iload_n 1, 1) := by decide +kernel
theorem dX4_learn_54 : decode cX4_learn 54 = .ok (.iadd, 1) := by decide +kernel
theorem dX4_learn_55 : decode cX4_learn 55 = .ok (.iload_n 3, 1) := by decide +kernel
theorem dX4_learn_56 : decode cX4_learn 56 = .ok (.iastore, 1) := by decide +kernel
theorem dX4_learn_57 : decode cX4_learn 57 = .ok (.iinc 2 1, 3) := by decide +kernel
theorem dX4_learn_60 : decode cX4_learn 60 = .ok (.goto (-46), 3) := by decide +kernel
theorem dX4_learn_63 : decode cX4_learn 63 = .ok (.return_, 1) := by decide +kernel
theorem dX4_hindrance_0 : decode cX4_hindrance 0 = .ok (.aload_n 0, 1) := by decide +kernel
theorem dX4_hindrance_1 : decode cX4_hindrance 1 = .ok (.getfield 9, 3) := by decide +kernel
theorem dX4_hindrance_4 : decode cX4_hindrance 4 = .ok (.iload_n 1, 1) := by decide +kernel
theorem dX4_hindrance_5 : decode cX4_hindrance 5 = .ok (.invokevirtual 42, 3) := by decide +kernel
theorem dX4_hindrance_8 : decode cX4_hindrance 8 = .ok (.ifCond .eq 28, 3) := by decide +kernel
theorem dX4_hindrance_11 : decode cX4_hindrance 11 = .ok (.aload_n 0, 1) := by decide +kernel
theorem dX4_hindrance_12 : decode cX4_hindrance 12 = .ok (.getfield 9, 3) := by decide +kernel
theorem dX4_hindrance_15 : decode cX4_hindrance 15 = .ok (.iload_n 2, 1) := by decide +kernel
theorem dX4_hindrance_16 : decode cX4_hindrance 16 = .ok (.invokevirtual 42, 3) := by decide +kernel
theorem dX4_hindrance_19 : decode cX4_hindrance 19 = .ok (.ifCond .eq 17, 3) := by decide +kernel
theorem dX4_hindrance_22 : decode cX4_hindrance 22 = .ok (.aload_n 0, 1) := by decide +kernel
theorem dX4_hindrance_23 : decode cX4_hindrance 23 = .ok (.getfield 25, 3) := by decide +kernel
theorem dX4_hindrance_26 : decode cX4_hindrance 26 = .ok (.iload_n 1, 1) := by decide +kernel
theorem dX4_hindrance_27 : decode cX4_hindrance 27 = .ok (.bipush 8, 2) := by decide +kernel
theorem dX4_hindrance_29 : decode cX4_hindrance 29 = .ok (.imul, 1) := by decide +kernel
theorem dX4_hindrance_30 : decode cX4_hindrance 30 = .ok (.iload_n 2, 1) := by decide +kernel
theorem dX4_hindrance_31 : decode cX4_hindrance 31 = .ok (.iadd, 1) := by decide +kernel
theorem dX4_hindrance_32 : decode cX4_hindrance 32 = .ok (.iaload, 1) := by decide +kernel
theorem dX4_hindrance_33 : decode cX4_hindrance 33 = .ok (.goto 4, 3) := by decide +kernel
theorem dX4_hindrance_36 : decode cX4_hindrance 36 = .ok (.iconst 0, 1) := by decide +kernel
theorem dX4_hindrance_37 : decode cX4_hindrance 37 = .ok (.ireturn, 1) := by decide +kernel
theorem dX4_mostFriends_0 : decode cX4_mostFriends 0 = .ok (.iconst 0, 1) := by decide +kernel
theorem dX4_mostFriends_1 : decode cX4_mostFriends 1 = .ok (.istore_n 2, 1) := by decide +kernel
theorem dX4_mostFriends_2 : decode cX4_mostFriends 2 = .ok (.iconst 1, 1) := by decide +kernel
theorem dX4_mostFriends_3 : decode cX4_mostFriends 3 = .ok (.istore_n 3, 1) := by decide +kernel
theorem dX4_mostFriends_4 : decode cX4_mostFriends 4 = .ok (.iload_n 3, 1) := by decide +kernel
theorem dX4_mostFriends_5 : decode cX4_mostFriends 5 = .ok (.iconst 1, 1) := by decide +kernel
theorem dX4_mostFriends_6 : decode cX4_mostFriends 6 = .ok (.aload_n 0, 1) := by decide +kernel
theorem dX4_mostFriends_7 : decode cX4_mostFriends 7 = .ok (.getfield 9, 3) := by decide +kernel
theorem dX4_mostFriends_10 : decode cX4_mostFriends 10 = .ok (.getfield 85, 3) := by decide +kernel
theorem dX4_mostFriends_13 : decode cX4_mostFriends 13 = .ok (.ishl, 1) := by decide +kernel
theorem dX4_mostFriends_14 : decode cX4_mostFriends 14 = .ok (.if_icmp .ge 31, 3) := by decide +kernel
theorem dX4_mostFriends_17 : decode cX4_mostFriends 17 = .ok (.iload_n 3, 1) := by decide +kernel
theorem dX4_mostFriends_18 : decode cX4_mostFriends 18 = .ok (.invokestatic 88, 3) := by decide +kernel
theorem dX4_mostFriends_21 : decode cX4_mostFriends 21 = .ok (.iload_n 2, 1) := by decide +kernel
theorem dX4_mostFriends_22 : decode cX4_mostFriends 22 = .ok (.invokestatic 88, 3) := by decide +kernel
theorem dX4_mostFriends_25 : decode cX4_mostFriends 25 = .ok (.if_icmp .le 14, 3) := by decide +kernel
theorem dX4_mostFriends_28 : decode cX4_mostFriends 28 = .ok (.aload_n 0, 1) := by decide +kernel
theorem dX4_mostFriends_29 : decode cX4_mostFriends 29 = .ok (.iload_n 3, 1) := by decide +kernel
theorem dX4_mostFriends_30 : decode cX4_mostFriends 30 = .ok (.iload_n 1, 1) := by decide +kernel
theorem dX4_mostFriends_31 : decode cX4_mostFriends 31 = .ok (.invokevirtual 93, 3) := by decide +kernel
theorem dX4_mostFriends_34 : decode cX4_mostFriends 34 = .ok (.ifCond .eq 5, 3) := by decide +kernel
theorem dX4_mostFriends_37 : decode cX4_mostFriends 37 = .ok (.iload_n 3, 1) := by decide +kernel
theorem dX4_mostFriends_38 : decode cX4_mostFriends 38 = .ok (.istore_n 2, 1) := by decide +kernel
theorem dX4_mostFriends_39 : decode cX4_mostFriends 39 = .ok (.iinc 3 1, 3) := by decide +kernel
theorem dX4_mostFriends_42 : decode cX4_mostFriends 42 = .ok (.goto (-38), 3) := by decide +kernel
theorem dX4_mostFriends_45 : decode cX4_mostFriends 45 = .ok (.iload_n 2, 1) := by decide +kernel
theorem dX4_mostFriends_46 : decode cX4_mostFriends 46 = .ok (.ireturn, 1) := by decide +kernel
theorem dX4_areFriends_0 : decode cX4_areFriends 0 = .ok (.iconst 0, 1) := by decide +kernel
theorem dX4_areFriends_1 : decode cX4_areFriends 1 = .ok (.istore_n 3, 1) := by decide +kernel
theorem dX4_areFriends_2 : decode cX4_areFriends 2 = .ok (.iload_n 3, 1) := by decide +kernel
theorem dX4_areFriends_3 : decode cX4_areFriends 3 = .ok (.aload_n 0, 1) := by decide +kernel
theorem dX4_areFriends_4 : decode cX4_areFriends 4 = .ok (.getfield 9, 3) := by decide +kernel
theorem dX4_areFriends_7 : decode cX4_areFriends 7 = .ok (.getfield 85, 3) := by decide +kernel
theorem dX4_areFriends_10 : decode cX4_areFriends 10 = .ok (.if_icmp .ge 63, 3) := by decide +kernel
theorem dX4_areFriends_13 : decode cX4_areFriends 13 = .ok (.iconst 0, 1) := by decide +kernel
theorem dX4_areFriends_14 : decode cX4_areFriends 14 = .ok (.istore 4, 2) := by decide +kernel
theorem dX4_areFriends_16 : decode cX4_areFriends 16 = .ok (.iload 4, 2) := by decide +kernel
theorem dX4_areFriends_18 : decode cX4_areFriends 18 = .ok (.iload_n 3, 1) := by decide +kernel
theorem dX4_areFriends_19 : decode cX4_areFriends 19 = .ok (.if_icmp .ge 48, 3) := by decide +kernel
theorem dX4_areFriends_22 : decode cX4_areFriends 22 = .ok (.iload_n 1, 1) := by decide +kernel
theorem dX4_areFriends_23 : decode cX4_areFriends 23 = .ok (.iload_n 3, 1) := by decide +kernel
theorem dX4_areFriends_24 : decode cX4_areFriends 24 = .ok (.ishr, 1) := by decide +kernel
theorem dX4_areFriends_25 : decode cX4_areFriends 25 = .ok (.iload_n 1, 1) := by decide +kernel
theorem dX4_areFriends_26 : decode cX4_areFriends 26 = .ok (.iload 4, 2) := by decide +kernel
theorem dX4_areFriends_28 : decode cX4_areFriends 28 = .ok (.ishr, 1) := by decide +kernel
theorem dX4_areFriends_29 : decode cX4_areFriends 29 = .ok (.iand, 1) := by decide +kernel
theorem dX4_areFriends_30 : decode cX4_areFriends 30 = .ok (.iconst 1, 1) := by decide +kernel
theorem dX4_areFriends_31 : decode cX4_areFriends 31 = .ok (.iand, 1) := by decide +kernel
theorem dX4_areFriends_32 : decode cX4_areFriends 32 = .ok (.iconst 1, 1) := by decide +kernel
theorem dX4_areFriends_33 : decode cX4_areFriends 33 = .ok (.if_icmp .ne 7, 3) := by decide +kernel
theorem dX4_areFriends_36 : decode cX4_areFriends 36 = .ok (.iconst 1, 1) := by decide +kernel
theorem dX4_areFriends_37 : decode cX4_areFriends 37 = .ok (.goto 4, 3) := by decide +kernel
theorem dX4_areFriends_40 : decode cX4_areFriends 40 = .ok (.iconst 0, 1) := by decide +kernel
theorem dX4_areFriends_41 : decode cX4_areFriends 41 = .ok (.istore 5, 2) := by decide +kernel
theorem dX4_areFriends_43 : decode cX4_areFriends 43 = .ok (.iload 5, 2) := by decide +kernel
theorem dX4_areFriends_45 : decode cX4_areFriends 45 = .ok (.ifCond .eq 16, 3) := by decide +kernel
theorem dX4_areFriends_48 : decode cX4_areFriends 48 = .ok (.aload_n 0, 1) := by decide +kernel
theorem dX4_areFriends_49 : decode cX4_areFriends 49 = .ok (.iload_n 3, 1) := by decide +kernel
theorem dX4_areFriends_50 : decode cX4_areFriends 50 = .ok (.iload 4, 2) := by decide +kernel
theorem dX4_areFriends_52 : decode cX4_areFriends 52 = .ok (.invokevirtual 97, 3) := by decide +kernel
theorem dX4_areFriends_55 : decode cX4_areFriends 55 = .ok (.iload_n 2, 1) := by decide +kernel
theorem dX4_areFriends_56 : decode cX4_areFriends 56 = .ok (.if_icmp .le 5, 3) := by decide +kernel
theorem dX4_areFriends_59 : decode cX4_areFriends 59 = .ok (.iconst 0, 1) := by decide +kernel
theorem dX4_areFriends_60 : decode cX4_areFriends 60 = .ok (.ireturn, 1) := by decide +kernel
theorem dX4_areFriends_61 : decode cX4_areFriends 61 = .ok (.iinc 4 1, 3) := by decide +kernel
theorem dX4_areFriends_64 : decode cX4_areFriends 64 = .ok (.goto (-48), 3) := by decide +kernel
theorem dX4_areFriends_67 : decode cX4_areFriends 67 = .ok (.iinc 3 1, 3) := by decide +kernel
theorem dX4_areFriends_70 : decode cX4_areFriends 70 = .ok (.goto (-68), 3) := by decide +kernel
theorem dX4_areFriends_73 : decode cX4_areFriends 73 = .ok (.iconst 1, 1) := by decide +kernel
theorem dX4_areFriends_74 : decode cX4_areFriends 74 = .ok (.ireturn, 1) := by decide +kernel
theorem dX4_sideTogether_0 : decode cX4_sideTogether 0 = .ok (.iconst 0, 1) := by decide +kernel
theorem dX4_sideTogether_1 : decode cX4_sideTogether 1 = .ok (.istore_n 3, 1) := by decide +kernel
theorem dX4_sideTogether_2 : decode cX4_sideTogether 2 = .ok (.aload_n 0, 1) := by decide +kernel
theorem dX4_sideTogether_3 : decode cX4_sideTogether 3 = .ok (.iload_n 1, 1) := by decide +kernel
theorem dX4_sideTogether_4 : decode cX4_sideTogether 4 = .ok (.iconst (-1), 1) := by decide +kernel
theorem dX4_sideTogether_5 : decode cX4_sideTogether 5 = .ok (.invokevirtual 81, 3) := by decide +kernel
theorem dX4_sideTogether_8 : decode cX4_sideTogether 8 = .ok (.iconst 1, 1) := by decide +kernel
theorem dX4_sideTogether_9 : decode cX4_sideTogether 9 = .ok (.istore 4, 2) := by decide +kernel
theorem dX4_sideTogether_11 : decode cX4_sideTogether 11 = .ok (.iload 4, 2) := by decide +kernel
theorem dX4_sideTogether_13 : decode cX4_sideTogether 13 = .ok (.aload_n 0, 1) := by decide +kernel
theorem dX4_sideTogether_14 : decode cX4_sideTogether 14 = .ok (.getfield 9, 3) := by decide +kernel
theorem dX4_sideTogether_17 : decode cX4_sideTogether 17 = .ok (.iload_n 1, 1) := by decide +kernel
theorem dX4_sideTogether_18 : decode cX4_sideTogether 18 = .ok (.invokevirtual 28, 3) := by decide +kernel
theorem dX4_sideTogether_21 : decode cX4_sideTogether 21 = .ok (.if_icmp .ge 22, 3) := by decide +kernel
theorem dX4_sideTogether_24 : decode cX4_sideTogether 24 = .ok (.iload_n 3, 1) := by decide +kernel
theorem dX4_sideTogether_25 : decode cX4_sideTogether 25 = .ok (.aload_n 0, 1) := by decide +kernel
theorem dX4_sideTogether_26 : decode cX4_sideTogether 26 = .ok (.iload_n 1, 1) := by decide +kernel
theorem dX4_sideTogether_27 : decode cX4_sideTogether 27 = .ok (.iload_n 2, 1) := by decide +kernel
theorem dX4_sideTogether_28 : decode cX4_sideTogether 28 = .ok (.iload 4, 2) := by decide +kernel
theorem dX4_sideTogether_30 : decode cX4_sideTogether 30 = .ok (.invokevirtual 100, 3) := by decide +kernel
theorem dX4_sideTogether_33 : decode cX4_sideTogether 33 = .ok (.invokestatic 49, 3) := by decide +kernel
theorem dX4_sideTogether_36 : decode cX4_sideTogether 36 = .ok (.istore_n 3, 1) := by decide +kernel
theorem dX4_sideTogether_37 : decode cX4_sideTogether 37 = .ok (.iinc 4 1, 3) := by decide +kernel
theorem dX4_sideTogether_40 : decode cX4_sideTogether 40 = .ok (.goto (-29), 3) := by decide +kernel
theorem dX4_sideTogether_43 : decode cX4_sideTogether 43 = .ok (.iload_n 3, 1) := by decide +kernel
theorem dX4_sideTogether_44 : decode cX4_sideTogether 44 = .ok (.ireturn, 1) := by decide +kernel
theorem dX4_powerTogether_0 : decode cX4_powerTogether 0 = .ok (.aload_n 0, 1) := by decide +kernel
theorem dX4_powerTogether_1 : decode cX4_powerTogether 1 = .ok (.iload_n 1, 1) := by decide +kernel
theorem dX4_powerTogether_2 : decode cX4_powerTogether 2 = .ok (.iload_n 1, 1) := by decide +kernel
theorem dX4_powerTogether_3 : decode cX4_powerTogether 3 = .ok (.iload_n 3, 1) := by decide +kernel
theorem dX4_powerTogether_4 : decode cX4_powerTogether 4 = .ok (.iconst 0, 1) := by decide +kernel
theorem dX4_powerTogether_5 : decode cX4_powerTogether 5 = .ok (.invokevirtual 72, 3) := by decide +kernel
theorem dX4_powerTogether_8 : decode cX4_powerTogether 8 = .ok (.pop, 1) := by decide +kernel
theorem dX4_powerTogether_9 : decode cX4_powerTogether 9 = .ok (.aload_n 0, 1) := by decide +kernel
theorem dX4_powerTogether_10 : decode cX4_powerTogether 10 = .ok (.iload_n 2, 1) := by decide +kernel
theorem dX4_powerTogether_11 : decode cX4_powerTogether 11 = .ok (.iload_n 2, 1) := by decide +kernel
theorem dX4_powerTogether_12 : decode cX4_powerTogether 12 = .ok (.iload_n 3, 1) := by decide +kernel
theorem dX4_powerTogether_13 : decode cX4_powerTogether 13 = .ok (.iconst 0, 1) := by decide +kernel
theorem dX4_powerTogether_14 : decode cX4_powerTogether 14 = .ok (.invokevirtual 64, 3) := by decide +kernel
theorem dX4_powerTogether_17 : decode cX4_powerTogether 17 = .ok (.aload_n 0, 1) := by decide +kernel
theorem dX4_powerTogether_18 : decode cX4_powerTogether 18 = .ok (.invokevirtual 68, 3) := by decide +kernel
theorem dX4_powerTogether_21 : decode cX4_powerTogether 21 = .ok (.ireturn, 1) := by decide +kernel
theorem dX5_init_0 : decode cX5_init 0 = .ok (.aload_n 0, 1) := by decide +kernel
theorem dX5_init_1 : decode cX5_init 1 = .ok (.invokespecial 3, 3) := by decide +kernel
theorem dX5_init_4 : decode cX5_init 4 = .ok (.aload_n 0, 1) := by decide +kernel
theorem dX5_init_5 : decode cX5_init 5 = .ok (.aload_n 1, 1) := by decide +kernel
theorem dX5_init_6 : decode cX5_init 6 = .ok (.putfield 9, 3) := by decide +kernel
theorem dX5_init_9 : decode cX5_init 9 = .ok (.aload_n 0, 1) := by decide +kernel
theorem dX5_init_10 : decode cX5_init 10 = .ok (.aload_n 2, 1) := by decide +kernel
theorem dX5_init_11 : decode cX5_init 11 = .ok (.putfield 15, 3) := by decide +kernel
theorem dX5_init_14 : decode cX5_init 14 = .ok (.aload_n 0, 1) := by decide +kernel
theorem dX5_init_15 : decode cX5_init 15 = .ok (.bipush 16, 2) := by decide +kernel
theorem dX5_init_17 : decode cX5_init 17 = .ok (.newarray .int, 2) := by decide +kernel
theorem dX5_init_19 : decode cX5_init 19 = .ok (.putfield 19, 3) := by decide +kernel
theorem dX5_init_22 : decode cX5_init 22 = .ok (.return_, 1) := by decide +kernel
theorem dX5_findingAt_0 : decode cX5_findingAt 0 = .ok (.aload_n 0, 1) := by decide +kernel
theorem dX5_findingAt_1 : decode cX5_findingAt 1 = .ok (.iload_n 1, 1) := by decide +kernel
theorem dX5_findingAt_2 : decode cX5_findingAt 2 = .ok (.invokevirtual 22, 3) := by decide +kernel
theorem dX5_findingAt_5 : decode cX5_findingAt 5 = .ok (.aload_n 0, 1) := by decide +kernel
theorem dX5_findingAt_6 : decode cX5_findingAt 6 = .ok (.getfield 15, 3) := by decide +kernel
theorem dX5_findingAt_9 : decode cX5_findingAt 9 = .ok (.iconst 4, 1) := by decide +kernel
theorem dX5_findingAt_10 : decode cX5_findingAt 10 = .ok (.iaload, 1) := by decide +kernel
theorem dX5_findingAt_11 : decode cX5_findingAt 11 = .ok (.istore_n 2, 1) := by decide +kernel
theorem dX5_findingAt_12 : decode cX5_findingAt 12 = .ok (.iload_n 2, 1) := by decide +kernel
theorem dX5_findingAt_13 : decode cX5_findingAt 13 = .ok (.iconst 1, 1) := by decide +kernel
theorem dX5_findingAt_14 : decode cX5_findingAt 14 = .ok (.if_icmp .lt 11, 3) := by decide +kernel
theorem dX5_findingAt_17 : decode cX5_findingAt 17 = .ok (.iload_n 2, 1) := by decide +kernel
theorem dX5_findingAt_18 : decode cX5_findingAt 18 = .ok (.aload_n 0, 1) := by decide +kernel
theorem dX5_findingAt_19 : decode cX5_findingAt 19 = .ok (.getfield 26, 3) := by decide +kernel
theorem dX5_findingAt_22 : decode cX5_findingAt 22 = .ok (.if_icmp .le 6, 3) := by decide +kernel
theorem dX5_findingAt_25 : decode cX5_findingAt 25 = .ok (.ldc 30, 2) := by decide +kernel
theorem dX5_findingAt_27 : decode cX5_findingAt 27 = .ok (.ireturn, 1) := by decide +kernel
theorem dX5_findingAt_28 : decode cX5_findingAt 28 = .ok (.bipush 10, 2) := by decide +kernel
theorem dX5_findingAt_30 : decode cX5_findingAt 30 = .ok (.aload_n 0, 1) := by decide +kernel
theorem dX5_findingAt_31 : decode cX5_findingAt 31 = .ok (.getfield 9, 3) := by decide +kernel
theorem dX5_findingAt_34 : decode cX5_findingAt 34 = .ok (.iload_n 1, 1) := by decide +kernel
theorem dX5_findingAt_35 : decode cX5_findingAt 35 = .ok (.invokevirtual 31, 3) := by decide +kernel
theorem dX5_findingAt_38 : decode cX5_findingAt 38 = .ok (.imul, 1) := by decide +kernel
theorem dX5_findingAt_39 : decode cX5_findingAt 39 = .ok (.aload_n 0, 1) := by decide +kernel
theorem dX5_findingAt_40 : decode cX5_findingAt 40 = .ok (.getfield 15, 3) := by decide +kernel
theorem dX5_findingAt_43 : decode cX5_findingAt 43 = .ok (.iconst 5, 1) := by decide +kernel
theorem dX5_findingAt_44 : decode cX5_findingAt 44 = .ok (.iaload, 1) := by decide +kernel
theorem dX5_findingAt_45 : decode cX5_findingAt 45 = .ok (.aload_n 0, 1) := by decide +kernel
theorem dX5_findingAt_46 : decode cX5_findingAt 46 = .ok (.getfield 19, 3) := by decide +kernel
theorem dX5_findingAt_49 : decode cX5_findingAt 49 = .ok (.iload_n 2, 1) := by decide +kernel
theorem dX5_findingAt_50 : decode cX5_findingAt 50 = .ok (.iconst 1, 1) := by decide +kernel
theorem dX5_findingAt_51 : decode cX5_findingAt 51 = .ok (.isub, 1) := by decide +kernel
theorem dX5_findingAt_52 : decode cX5_findingAt 52 = .ok (.iaload, 1) := by decide +kernel
theorem dX5_findingAt_53 : decode cX5_findingAt 53 = .ok (.imul, 1) := by decide +kernel
theorem dX5_findingAt_54 : decode cX5_findingAt 54 = .ok (.if_icmp .le 7, 3) := by decide +kernel
theorem dX5_findingAt_57 : decode cX5_findingAt 57 = .ok (.iconst 1, 1) := by decide +kernel
theorem dX5_findingAt_58 : decode cX5_findingAt 58 = .ok (.goto 4, 3) := by decide +kernel
theorem dX5_findingAt_61 : decode cX5_findingAt 61 = .ok (.iconst 0, 1) := by decide +kernel
theorem dX5_findingAt_62 : decode cX5_findingAt 62 = .ok (.ireturn, 1) := by decide +kernel
theorem dX5_openWindow_0 : decode cX5_openWindow 0 = .ok (.aload_n 0, 1) := by decide +kernel
theorem dX5_openWindow_1 : decode cX5_openWindow 1 = .ok (.getfield 15, 3) := by decide +kernel
theorem dX5_openWindow_4 : decode cX5_openWindow 4 = .ok (.iconst 2, 1) := by decide +kernel
theorem dX5_openWindow_5 : decode cX5_openWindow 5 = .ok (.iaload, 1) := by decide +kernel
theorem dX5_openWindow_6 : decode cX5_openWindow 6 = .ok (.iconst 1, 1) := by decide +kernel
theorem dX5_openWindow_7 : decode cX5_openWindow 7 = .ok (.iadd, 1) := by decide +kernel
theorem dX5_openWindow_8 : decode cX5_openWindow 8 = .ok (.istore_n 2, 1) := by decide +kernel
theorem dX5_openWindow_9 : decode cX5_openWindow 9 = .ok (.aload_n 0, 1) := by decide +kernel
theorem dX5_openWindow_10 : decode cX5_openWindow 10 = .ok (.getfield 15, 3) := by decide +kernel
theorem dX5_openWindow_13 : decode cX5_openWindow 13 = .ok (.iconst 2, 1) := by decide +kernel
theorem dX5_openWindow_14 : decode cX5_openWindow 14 = .ok (.iaload, 1) := by decide +kernel
theorem dX5_openWindow_15 : decode cX5_openWindow 15 = .ok (.aload_n 0, 1) := by decide +kernel
theorem dX5_openWindow_16 : decode cX5_openWindow 16 = .ok (.getfield 15, 3) := by decide +kernel
theorem dX5_openWindow_19 : decode cX5_openWindow 19 = .ok (.iconst 3, 1) := by decide +kernel
theorem dX5_openWindow_20 : decode cX5_openWindow 20 = .ok (.iaload, 1) := by decide +kernel
theorem dX5_openWindow_21 : decode cX5_openWindow 21 = .ok (.iadd, 1) := by decide +kernel
theorem dX5_openWindow_22 : decode cX5_openWindow 22 = .ok (.istore_n 3, 1) := by decide +kernel
theorem dX5_openWindow_23 : decode cX5_openWindow 23 = .ok (.aload_n 0, 1) := by decide +kernel
theorem dX5_openWindow_24 : decode cX5_openWindow 24 = .ok (.iconst 0, 1) := by decide +kernel
theorem dX5_openWindow_25 : decode cX5_openWindow 25 = .ok (.putfield 26, 3) := by decide +kernel
theorem dX5_openWindow_28 : decode cX5_openWindow 28 = .ok (.iload_n 2, 1) := by decide +kernel
theorem dX5_openWindow_29 : decode cX5_openWindow 29 = .ok (.istore 4, 2) := by decide +kernel
theorem dX5_openWindow_31 : decode cX5_openWindow 31 = .ok (.iload 4, 2) := by decide +kernel
theorem dX5_openWindow_33 : decode cX5_openWindow 33 = .ok (.iload_n 3, 1) := by decide +kernel
theorem dX5_openWindow_34 : decode cX5_openWindow 34 = .ok (.if_icmp .gt 25, 3) := by decide +kernel
theorem dX5_openWindow_37 : decode cX5_openWindow 37 = .ok (.aload_n 0, 1) := by decide +kernel
theorem dX5_openWindow_38 : decode cX5_openWindow 38 = .ok (.iload_n 1, 1) := by decide +kernel
theorem dX5_openWindow_39 : decode cX5_openWindow 39 = .ok (.iload 4, 2) := by decide +kernel
theorem dX5_openWindow_41 : decode cX5_openWindow 41 = .ok (.isub, 1) := by decide +kernel
theorem dX5_openWindow_42 : decode cX5_openWindow 42 = .ok (.invokevirtual 37, 3) := by decide +kernel
theorem dX5_openWindow_45 : decode cX5_openWindow 45 = .ok (.aload_n 0, 1) := by decide +kernel
theorem dX5_openWindow_46 : decode cX5_openWindow 46 = .ok (.iload_n 1, 1) := by decide +kernel
theorem dX5_openWindow_47 : decode cX5_openWindow 47 = .ok (.iload 4, 2) := by decide +kernel
theorem dX5_openWindow_49 : decode cX5_openWindow 49 = .ok (.iadd, 1) := by decide +kernel
theorem dX5_openWindow_50 : decode cX5_openWindow 50 = .ok (.invokevirtual 37, 3) := by decide +kernel
theorem dX5_openWindow_53 : decode cX5_openWindow 53 = .ok (.iinc 4 1, 3) := by decide +kernel
theorem dX5_openWindow_56 : decode cX5_openWindow 56 = .ok (.goto (-25), 3) := by decide +kernel
theorem dX5_openWindow_59 : decode cX5_openWindow 59 = .ok (.return_, 1) := by decide +kernel
theorem dX5_sortIn_0 : decode cX5_sortIn 0 = .ok (.aload_n 0, 1) := by decide +kernel
theorem dX5_sortIn_1 : decode cX5_sortIn 1 = .ok (.getfield 9, 3) := by decide +kernel
theorem dX5_sortIn_4 : decode cX5_sortIn 4 = .ok (.iload_n 1, 1) := by decide +kernel
theorem dX5_sortIn_5 : decode cX5_sortIn 5 = .ok (.invokevirtual 40, 3) := by decide +kernel
theorem dX5_sortIn_8 : decode cX5_sortIn 8 = .ok (.ifCond .eq 12, 3) := by decide +kernel
theorem dX5_sortIn_11 : decode cX5_sortIn 11 = .ok (.aload_n 0, 1) := by decide +kernel
theorem dX5_sortIn_12 : decode cX5_sortIn 12 = .ok (.getfield 26, 3) := by decide +kernel
theorem dX5_sortIn_15 : decode cX5_sortIn 15 = .ok (.bipush 16, 2) := by decide +kernel
theorem dX5_sortIn_17 : decode cX5_sortIn 17 = .ok (.if_icmp .lt 4, 3) := by decide +kernel
theorem dX5_sortIn_20 : decode cX5_sortIn 20 = .ok (.return_, 1) := by decide +kernel
theorem dX5_sortIn_21 : decode cX5_sortIn 21 = .ok (.aload_n 0, 1) := by decide +kernel
theorem dX5_sortIn_22 : decode cX5_sortIn 22 = .ok (.getfield 9, 3) := by decide +kernel
theorem dX5_sortIn_25 : decode cX5_sortIn 25 = .ok (.iload_n 1, 1) := by decide +kernel
theorem dX5_sortIn_26 : decode cX5_sortIn 26 = .ok (.invokevirtual 31, 3) := by decide +kernel
theorem dX5_sortIn_29 : decode cX5_sortIn 29 = .ok (.istore_n 2, 1) := by decide +kernel
theorem dX5_sortIn_30 : decode cX5_sortIn 30 = .ok (.aload_n 0, 1) := by decide +kernel
theorem dX5_sortIn_31 : decode cX5_sortIn 31 = .ok (.getfield 26, 3) := by decide +kernel
theorem dX5_sortIn_34 : decode cX5_sortIn 34 = .ok (.istore_n 3, 1) := by decide +kernel
theorem dX5_sortIn_35 : decode cX5_sortIn 35 = .ok (.iload_n 3, 1) := by decide +kernel
theorem dX5_sortIn_36 : decode cX5_sortIn 36 = .ok (.ifCond .le 35, 3) := by decide +kernel
theorem dX5_sortIn_39 : decode cX5_sortIn 39 = .ok (.aload_n 0, 1) := by decide +kernel
theorem dX5_sortIn_40 : decode cX5_sortIn 40 = .ok (.getfield 19, 3) := by decide +kernel
theorem dX5_sortIn_43 : decode cX5_sortIn 43 = .ok (.iload_n 3, 1) := by decide +kernel
theorem dX5_sortIn_44 : decode cX5_sortIn 44 = .ok (.iconst 1, 1) := by decide +kernel
theorem dX5_sortIn_45 : decode cX5_sortIn 45 = .ok (.isub, 1) := by decide +kernel
theorem dX5_sortIn_46 : decode cX5_sortIn 46 = .ok (.iaload, 1) := by decide +kernel
theorem dX5_sortIn_47 : decode cX5_sortIn 47 = .ok (.iload_n 2, 1) := by decide +kernel
theorem dX5_sortIn_48 : decode cX5_sortIn 48 = .ok (.if_icmp .le 23, 3) := by decide +kernel
theorem dX5_sortIn_51 : decode cX5_sortIn 51 = .ok (.aload_n 0, 1) := by decide +kernel
theorem dX5_sortIn_52 : decode cX5_sortIn 52 = .ok (.getfield 19, 3) := by decide +kernel
theorem dX5_sortIn_55 : decode cX5_sortIn 55 = .ok (.iload_n 3, 1) := by decide +kernel
theorem dX5_sortIn_56 : decode cX5_sortIn 56 = .ok (.aload_n 0, 1) := by decide +kernel
theorem dX5_sortIn_57 : decode cX5_sortIn 57 = .ok (.getfield 19, 3) := by decide +kernel
theorem dX5_sortIn_60 : decode cX5_sortIn 60 = .ok (.iload_n 3, 1) := by decide +kernel
theorem dX5_sortIn_61 : decode cX5_sortIn 61 = .ok (.iconst 1, 1) := by decide +kernel
theorem dX5_sortIn_62 : decode cX5_sortIn 62 = .ok (.isub, 1) := by decide +kernel
theorem dX5_sortIn_63 : decode cX5_sortIn 63 = .ok (.iaload, 1) := by decide +kernel
theorem dX5_sortIn_64 : decode cX5_sortIn 64 = .ok (.iastore, 1) := by decide +kernel
theorem dX5_sortIn_65 : decode cX5_sortIn 65 = .ok (.iinc 3 (-1), 3) := by decide +kernel
theorem dX5_sortIn_68 : decode cX5_sortIn 68 = .ok (.goto (-33), 3) := by decide +kernel
theorem dX5_sortIn_71 : decode cX5_sortIn 71 = .ok (.aload_n 0, 1) := by decide +kernel
theorem dX5_sortIn_72 : decode cX5_sortIn 72 = .ok (.getfield 19, 3) := by decide +kernel
theorem dX5_sortIn_75 : decode cX5_sortIn 75 = .ok (.iload_n 3, 1) := by decide +kernel
theorem dX5_sortIn_76 : decode cX5_sortIn 76 = .ok (.iload_n 2, 1) := by decide +kernel
theorem dX5_sortIn_77 : decode cX5_sortIn 77 = .ok (.iastore, 1) := by decide +kernel
theorem dX5_sortIn_78 : decode cX5_sortIn 78 = .ok (.aload_n 0, 1) := by decide +kernel
theorem dX5_sortIn_79 : decode cX5_sortIn 79 = .ok (.dup, 1) := by decide +kernel
theorem dX5_sortIn_80 : decode cX5_sortIn 80 = .ok (.getfield 26, 3) := by decide +kernel
theorem dX5_sortIn_83 : decode cX5_sortIn 83 = .ok (.iconst 1, 1) := by decide +kernel
theorem dX5_sortIn_84 : decode cX5_sortIn 84 = .ok (.iadd, 1) := by decide +kernel
theorem dX5_sortIn_85 : decode cX5_sortIn 85 = .ok (.putfield 26, 3) := by decide +kernel
theorem dX5_sortIn_88 : decode cX5_sortIn 88 = .ok (.return_, 1) := by decide +kernel
theorem dX5_manyFound_0 : decode cX5_manyFound 0 = .ok (.iconst 0, 1) := by decide +kernel
theorem dX5_manyFound_1 : decode cX5_manyFound 1 = .ok (.istore_n 1, 1) := by decide +kernel
theorem dX5_manyFound_2 : decode cX5_manyFound 2 = .ok (.iconst 0, 1) := by decide +kernel
theorem dX5_manyFound_3 : decode cX5_manyFound 3 = .ok (.istore_n 2, 1) := by decide +kernel
theorem dX5_manyFound_4 : decode cX5_manyFound 4 = .ok (.iload_n 2, 1) := by decide +kernel
theorem dX5_manyFound_5 : decode cX5_manyFound 5 = .ok (.aload_n 0, 1) := by decide +kernel
theorem dX5_manyFound_6 : decode cX5_manyFound 6 = .ok (.getfield 9, 3) := by decide +kernel
theorem dX5_manyFound_9 : decode cX5_manyFound 9 = .ok (.invokevirtual 44, 3) := by decide +kernel
theorem dX5_manyFound_12 : decode cX5_manyFound 12 = .ok (.if_icmp .ge 21, 3) := by decide +kernel
theorem dX5_manyFound_15 : decode cX5_manyFound 15 = .ok (.aload_n 0, 1) := by decide +kernel
theorem dX5_manyFound_16 : decode cX5_manyFound 16 = .ok (.iload_n 2, 1) := by decide +kernel
theorem dX5_manyFound_17 : decode cX5_manyFound 17 = .ok (.invokevirtual 48, 3) := by decide +kernel
theorem dX5_manyFound_20 : decode cX5_manyFound 20 = .ok (.iconst 1, 1) := by decide +kernel
theorem dX5_manyFound_21 : decode cX5_manyFound 21 = .ok (.if_icmp .ne 6, 3) := by decide +kernel
theorem dX5_manyFound_24 : decode cX5_manyFound 24 = .ok (.iinc 1 1, 3) := by decide +kernel
theorem dX5_manyFound_27 : decode cX5_manyFound 27 = .ok (.iinc 2 1, 3) := by decide +kernel
theorem dX5_manyFound_30 : decode cX5_manyFound 30 = .ok (.goto (-26), 3) := by decide +kernel
theorem dX5_manyFound_33 : decode cX5_manyFound 33 = .ok (.iload_n 1, 1) := by decide +kernel
theorem dX5_manyFound_34 : decode cX5_manyFound 34 = .ok (.ireturn, 1) := by decide +kernel
theorem dX5_heapsOf_0 : decode cX5_heapsOf 0 = .ok (.iconst 0, 1) := by decide +kernel
theorem dX5_heapsOf_1 : decode cX5_heapsOf 1 = .ok (.istore_n 2, 1) := by decide +kernel
theorem dX5_heapsOf_2 : decode cX5_heapsOf 2 = .ok (.iconst 0, 1) := by decide +kernel
theorem dX5_heapsOf_3 : decode cX5_heapsOf 3 = .ok (.istore_n 3, 1) := by decide +kernel
theorem dX5_heapsOf_4 : decode cX5_heapsOf 4 = .ok (.iconst (-1), 1) := by decide +kernel
theorem dX5_heapsOf_5 : decode cX5_heapsOf 5 = .ok (.istore 4, 2) := by decide +kernel
theorem dX5_heapsOf_7 : decode cX5_heapsOf 7 = .ok (.iconst 0, 1) := by decide +kernel
theorem dX5_heapsOf_8 : decode cX5_heapsOf 8 = .ok (.istore 5, 2) := by decide +kernel
theorem dX5_heapsOf_10 : decode cX5_heapsOf 10 = .ok (.iconst 0, 1) := by decide +kernel
theorem dX5_heapsOf_11 : decode cX5_heapsOf 11 = .ok (.istore 6, 2) := by decide +kernel
theorem dX5_heapsOf_13 : decode cX5_heapsOf 13 = .ok (.iload 6, 2) := by decide +kernel
theorem dX5_heapsOf_15 : decode cX5_heapsOf 15 = .ok (.aload_n 0, 1) := by decide +kernel
theorem dX5_heapsOf_16 : decode cX5_heapsOf 16 = .ok (.getfield 9, 3) := by decide +kernel
theorem dX5_heapsOf_19 : decode cX5_heapsOf 19 = .ok (.invokevirtual 44, 3) := by decide +kernel
theorem dX5_heapsOf_22 : decode cX5_heapsOf 22 = .ok (.if_icmp .ge 56, 3) := by decide +kernel
theorem dX5_heapsOf_25 : decode cX5_heapsOf 25 = .ok (.aload_n 0, 1) := by decide +kernel
theorem dX5_heapsOf_26 : decode cX5_heapsOf 26 = .ok (.iload 6, 2) := by decide +kernel
theorem dX5_heapsOf_28 : decode cX5_heapsOf 28 = .ok (.invokevirtual 48, 3) := by decide +kernel
theorem dX5_heapsOf_31 : decode cX5_heapsOf 31 = .ok (.iconst 1, 1) := by decide +kernel
theorem dX5_heapsOf_32 : decode cX5_heapsOf 32 = .ok (.if_icmp .ne 10, 3) := by decide +kernel
theorem dX5_heapsOf_35 : decode cX5_heapsOf 35 = .ok (.iload 5, 2) := by decide +kernel
theorem dX5_heapsOf_37 : decode cX5_heapsOf 37 = .ok (.iconst 1, 1) := by decide +kernel
theorem dX5_heapsOf_38 : decode cX5_heapsOf 38 = .ok (.iadd, 1) := by decide +kernel
theorem dX5_heapsOf_39 : decode cX5_heapsOf 39 = .ok (.goto 4, 3) := by decide +kernel
theorem dX5_heapsOf_42 : decode cX5_heapsOf 42 = .ok (.iconst 0, 1) := by decide +kernel
theorem dX5_heapsOf_43 : decode cX5_heapsOf 43 = .ok (.istore 5, 2) := by decide +kernel
theorem dX5_heapsOf_45 : decode cX5_heapsOf 45 = .ok (.iload 5, 2) := by decide +kernel
theorem dX5_heapsOf_47 : decode cX5_heapsOf 47 = .ok (.iconst 1, 1) := by decide +kernel
theorem dX5_heapsOf_48 : decode cX5_heapsOf 48 = .ok (.if_icmp .ne 6, 3) := by decide +kernel
theorem dX5_heapsOf_51 : decode cX5_heapsOf 51 = .ok (.iinc 2 1, 3) := by decide +kernel
theorem dX5_heapsOf_54 : decode cX5_heapsOf 54 = .ok (.iload 5, 2) := by decide +kernel
theorem dX5_heapsOf_56 : decode cX5_heapsOf 56 = .ok (.iload_n 3, 1) := by decide +kernel
theorem dX5_heapsOf_57 : decode cX5_heapsOf 57 = .ok (.if_icmp .le 15, 3) := by decide +kernel
theorem dX5_heapsOf_60 : decode cX5_heapsOf 60 = .ok (.iload 5, 2) := by decide +kernel
theorem dX5_heapsOf_62 : decode cX5_heapsOf 62 = .ok (.istore_n 3, 1) := by decide +kernel
theorem dX5_heapsOf_63 : decode cX5_heapsOf 63 = .ok (.iload 6, 2) := by decide +kernel
theorem dX5_heapsOf_65 : decode cX5_heapsOf 65 = .ok (.iload 5, 2) := by decide +kernel
theorem dX5_heapsOf_67 : decode cX5_heapsOf 67 = .ok (.isub, 1) := by decide +kernel
theorem dX5_heapsOf_68 : decode cX5_heapsOf 68 = .ok (.iconst 1, 1) := by decide +kernel
theorem dX5_heapsOf_69 : decode cX5_heapsOf 69 = .ok (.iadd, 1) := by decide +kernel
theorem dX5_heapsOf_70 : decode cX5_heapsOf 70 = .ok (.istore 4, 2) := by decide +kernel
theorem dX5_heapsOf_72 : decode cX5_heapsOf 72 = .ok (.iinc 6 1, 3) := by decide +kernel
theorem dX5_heapsOf_75 : decode cX5_heapsOf 75 = .ok (.goto (-62), 3) := by decide +kernel
theorem dX5_heapsOf_78 : decode cX5_heapsOf 78 = .ok (.iload_n 1, 1) := by decide +kernel
theorem dX5_heapsOf_79 : decode cX5_heapsOf 79 = .ok (.ifCond .ne 5, 3) := by decide +kernel
theorem dX5_heapsOf_82 : decode cX5_heapsOf 82 = .ok (.iload_n 2, 1) := by decide +kernel
theorem dX5_heapsOf_83 : decode cX5_heapsOf 83 = .ok (.ireturn, 1) := by decide +kernel
theorem dX5_heapsOf_84 : decode cX5_heapsOf 84 = .ok (.iload_n 1, 1) := by decide +kernel
theorem dX5_heapsOf_85 : decode cX5_heapsOf 85 = .ok (.iconst 1, 1) := by decide +kernel
theorem dX5_heapsOf_86 : decode cX5_heapsOf 86 = .ok (.if_icmp .ne 7, 3) := by decide +kernel
theorem dX5_heapsOf_89 : decode cX5_heapsOf 89 = .ok (.iload_n 3, 1) := by decide +kernel
theorem dX5_heapsOf_90 : decode cX5_heapsOf 90 = .ok (.goto 5, 3) := by decide +kernel
theorem dX5_heapsOf_93 : decode cX5_heapsOf 93 = .ok (.iload 4, 2) := by decide +kernel
theorem dX5_heapsOf_95 : decode cX5_heapsOf 95 = .ok (.ireturn, 1) := by decide +kernel
theorem dX6_init_0 : decode cX6_init 0 = .ok (.aload_n 0, 1) := by decide +kernel
theorem dX6_init_1 : decode cX6_init 1 = .ok (.invokespecial 3, 3) := by decide +kernel
theorem dX6_init_4 : decode cX6_init 4 = .ok (.aload_n 0, 1) := by decide +kernel
theorem dX6_init_5 : decode cX6_init 5 = .ok (.aload_n 1, 1) := by decide +kernel
theorem dX6_init_6 : decode cX6_init 6 = .ok (.putfield 9, 3) := by decide +kernel
theorem dX6_init_9 : decode cX6_init 9 = .ok (.aload_n 0, 1) := by decide +kernel
theorem dX6_init_10 : decode cX6_init 10 = .ok (.bipush 120, 2) := by decide +kernel
theorem dX6_init_12 : decode cX6_init 12 = .ok (.newarray .int, 2) := by decide +kernel
theorem dX6_init_14 : decode cX6_init 14 = .ok (.putfield 17, 3) := by decide +kernel
theorem dX6_init_17 : decode cX6_init 17 = .ok (.return_, 1) := by decide +kernel
theorem dX6_readLaw_0 : decode cX6_readLaw 0 = .ok (.aload_n 0, 1) := by decide +kernel
theorem dX6_readLaw_1 : decode cX6_readLaw 1 = .ok (.iconst 0, 1) := by decide +kernel
theorem dX6_readLaw_2 : decode cX6_readLaw 2 = .ok (.putfield 21, 3) := by decide +kernel
theorem dX6_readLaw_5 : decode cX6_readLaw 5 = .ok (.aload_n 0, 1) := by decide +kernel
theorem dX6_readLaw_6 : decode cX6_readLaw 6 = .ok (.getfield 9, 3) := by decide +kernel
theorem dX6_readLaw_9 : decode cX6_readLaw 9 = .ok (.invokevirtual 25, 3) := by decide +kernel
theorem dX6_readLaw_12 : decode cX6_readLaw 12 = .ok (.iconst 0, 1) := by decide +kernel
theorem dX6_readLaw_13 : decode cX6_readLaw 13 = .ok (.istore_n 1, 1) := by decide +kernel
theorem dX6_readLaw_14 : decode cX6_readLaw 14 = .ok (.iload_n 1, 1) := by decide +kernel
theorem dX6_readLaw_15 : decode cX6_readLaw 15 = .ok (.bipush 120, 2) := by decide +kernel
theorem dX6_readLaw_17 : decode cX6_readLaw 17 = .ok (.if_icmp .ge 39, 3) := by decide +kernel
theorem dX6_readLaw_20 : decode cX6_readLaw 20 = .ok (.aload_n 0, 1) := by decide +kernel
theorem dX6_readLaw_21 : decode cX6_readLaw 21 = .ok (.invokevirtual 28, 3) := by decide +kernel
theorem dX6_readLaw_24 : decode cX6_readLaw 24 = .ok (.ifCond .ne 11, 3) := by decide +kernel
theorem dX6_readLaw_27 : decode cX6_readLaw 27 = .ok (.aload_n 0, 1) := by decide +kernel
theorem dX6_readLaw_28 : decode cX6_readLaw 28 = .ok (.getfield 9, 3) := by decide +kernel
theorem dX6_readLaw_31 : decode cX6_readLaw 31 = .ok (.getfield 32, 3) := by decide +kernel
theorem dX6_readLaw_34 : decode cX6_readLaw 34 = .ok (.ireturn, 1) := by decide +kernel
theorem dX6_readLaw_35 : decode cX6_readLaw 35 = .ok (.aload_n 0, 1) := by decide +kernel
theorem dX6_readLaw_36 : decode cX6_readLaw 36 = .ok (.getfield 9, 3) := by decide +kernel
theorem dX6_readLaw_39 : decode cX6_readLaw 39 = .ok (.bipush 59, 2) := by decide +kernel
theorem dX6_readLaw_41 : decode cX6_readLaw 41 = .ok (.invokevirtual 35, 3) := by decide +kernel
theorem dX6_readLaw_44 : decode cX6_readLaw 44 = .ok (.ifCond .ne 6, 3) := by decide +kernel
theorem dX6_readLaw_47 : decode cX6_readLaw 47 = .ok (.goto 9, 3) := by decide +kernel
theorem dX6_readLaw_50 : decode cX6_readLaw 50 = .ok (.iinc 1 1, 3) := by decide +kernel
theorem dX6_readLaw_53 : decode cX6_readLaw 53 = .ok (.goto (-39), 3) := by decide +kernel
theorem dX6_readLaw_56 : decode cX6_readLaw 56 = .ok (.aload_n 0, 1) := by decide +kernel
theorem dX6_readLaw_57 : decode cX6_readLaw 57 = .ok (.getfield 9, 3) := by decide +kernel
theorem dX6_readLaw_60 : decode cX6_readLaw 60 = .ok (.invokevirtual 39, 3) := by decide +kernel
theorem dX6_readLaw_63 : decode cX6_readLaw 63 = .ok (.ifCond .ne 7, 3) := by decide +kernel
theorem dX6_readLaw_66 : decode cX6_readLaw 66 = .ok (.iconst (-1), 1) := by decide +kernel
theorem dX6_readLaw_67 : decode cX6_readLaw 67 = .ok (.goto 10, 3) := by decide +kernel
theorem dX6_readLaw_70 : decode cX6_readLaw 70 = .ok (.aload_n 0, 1) := by decide +kernel
theorem dX6_readLaw_71 : decode cX6_readLaw 71 = .ok (.getfield 9, 3) := by decide +kernel
theorem dX6_readLaw_74 : decode cX6_readLaw 74 = .ok (.getfield 32, 3) := by decide +kernel
theorem dX6_readLaw_77 : decode cX6_readLaw 77 = .ok (.ireturn, 1) := by decide +kernel
theorem dX6_clause_0 : decode cX6_clause 0 = .ok (.aload_n 0, 1) := by decide +kernel
theorem dX6_clause_1 : decode cX6_clause 1 = .ok (.getfield 9, 3) := by decide +kernel
theorem dX6_clause_4 : decode cX6_clause 4 = .ok (.bipush 121, 2) := by decide +kernel
theorem dX6_clause_6 : decode cX6_clause 6 = .ok (.invokevirtual 35, 3) := by decide +kernel
theorem dX6_clause_9 : decode cX6_clause 9 = .ok (.ifCond .eq 15, 3) := by decide +kernel
theorem dX6_clause_12 : decode cX6_clause 12 = .ok (.aload_n 0, 1) := by decide +kernel
theorem dX6_clause_13 : decode cX6_clause 13 = .ok (.getfield 9, 3) := by decide +kernel
theorem dX6_clause_16 : decode cX6_clause 16 = .ok (.bipush 58, 2) := by decide +kernel
theorem dX6_clause_18 : decode cX6_clause 18 = .ok (.invokevirtual 35, 3) := by decide +kernel
theorem dX6_clause_21 : decode cX6_clause 21 = .ok (.ifCond .ne 5, 3) := by decide +kernel
theorem dX6_clause_24 : decode cX6_clause 24 = .ok (.iconst 0, 1) := by decide +kernel
theorem dX6_clause_25 : decode cX6_clause 25 = .ok (.ireturn, 1) := by decide +kernel
theorem dX6_clause_26 : decode cX6_clause 26 = .ok (.aload_n 0, 1) := by decide +kernel
theorem dX6_clause_27 : decode cX6_clause 27 = .ok (.getfield 9, 3) := by decide +kernel
theorem dX6_clause_30 : decode cX6_clause 30 = .ok (.invokevirtual 39, 3) := by decide +kernel
theorem dX6_clause_33 : decode cX6_clause 33 = .ok (.bipush 33, 2) := by decide +kernel
theorem dX6_clause_35 : decode cX6_clause 35 = .ok (.if_icmp .eq 15, 3) := by decide +kernel
theorem dX6_clause_38 : decode cX6_clause 38 = .ok (.aload_n 0, 1) := by decide +kernel
theorem dX6_clause_39 : decode cX6_clause 39 = .ok (.getfield 9, 3) := by decide +kernel
theorem dX6_clause_42 : decode cX6_clause 42 = .ok (.invokevirtual 39, 3) := by decide +kernel
theorem dX6_clause_45 : decode cX6_clause 45 = .ok (.bipush 40, 2) := by decide +kernel
theorem dX6_clause_47 : decode cX6_clause 47 = .ok (.if_icmp .ne 7, 3) := by decide +kernel
theorem dX6_clause_50 : decode cX6_clause 50 = .ok (.iconst 1, 1) := by decide +kernel
theorem dX6_clause_51 : decode cX6_clause 51 = .ok (.goto 4, 3) := by decide +kernel
theorem dX6_clause_54 : decode cX6_clause 54 = .ok (.iconst 0, 1) := by decide +kernel
theorem dX6_clause_55 : decode cX6_clause 55 = .ok (.istore_n 1, 1) := by decide +kernel
theorem dX6_clause_56 : decode cX6_clause 56 = .ok (.iload_n 1, 1) := by decide +kernel
theorem dX6_clause_57 : decode cX6_clause 57 = .ok (.ifCond .ne 36, 3) := by decide +kernel
theorem dX6_clause_60 : decode cX6_clause 60 = .ok (.aload_n 0, 1) := by decide +kernel
theorem dX6_clause_61 : decode cX6_clause 61 = .ok (.iconst 2, 1) := by decide +kernel
theorem dX6_clause_62 : decode cX6_clause 62 = .ok (.iconst 0, 1) := by decide +kernel
theorem dX6_clause_63 : decode cX6_clause 63 = .ok (.iconst 0, 1) := by decide +kernel
theorem dX6_clause_64 : decode cX6_clause 64 = .ok (.invokevirtual 43, 3) := by decide +kernel
theorem dX6_clause_67 : decode cX6_clause 67 = .ok (.ifCond .ne 5, 3) := by decide +kernel
theorem dX6_clause_70 : decode cX6_clause 70 = .ok (.iconst 0, 1) := by decide +kernel
theorem dX6_clause_71 : decode cX6_clause 71 = .ok (.ireturn, 1) := by decide +kernel
theorem dX6_clause_72 : decode cX6_clause 72 = .ok (.aload_n 0, 1) := by decide +kernel
theorem dX6_clause_73 : decode cX6_clause 73 = .ok (.getfield 9, 3) := by decide +kernel
theorem dX6_clause_76 : decode cX6_clause 76 = .ok (.invokevirtual 39, 3) := by decide +kernel
theorem dX6_clause_79 : decode cX6_clause 79 = .ok (.invokestatic 47, 3) := by decide +kernel
theorem dX6_clause_82 : decode cX6_clause 82 = .ok (.ifCond .ne 11, 3) := by decide +kernel
theorem dX6_clause_85 : decode cX6_clause 85 = .ok (.aload_n 0, 1) := by decide +kernel
theorem dX6_clause_86 : decode cX6_clause 86 = .ok (.bipush 121, 2) := by decide +kernel
theorem dX6_clause_88 : decode cX6_clause 88 = .ok (.invokevirtual 50, 3) := by decide +kernel
theorem dX6_clause_91 : decode cX6_clause 91 = .ok (.iconst 1, 1) := by decide +kernel
theorem dX6_clause_92 : decode cX6_clause 92 = .ok (.ireturn, 1) := by decide +kernel
theorem dX6_clause_93 : decode cX6_clause 93 = .ok (.aload_n 0, 1) := by decide +kernel
theorem dX6_clause_94 : decode cX6_clause 94 = .ok (.iconst 0, 1) := by decide +kernel
theorem dX6_clause_95 : decode cX6_clause 95 = .ok (.iconst 0, 1) := by decide +kernel
theorem dX6_clause_96 : decode cX6_clause 96 = .ok (.iload_n 1, 1) := by decide +kernel
theorem dX6_clause_97 : decode cX6_clause 97 = .ok (.ifCond .ne 7, 3) := by decide +kernel
theorem dX6_clause_100 : decode cX6_clause 100 = .ok (.iconst 1, 1) := by decide +kernel
theorem dX6_clause_101 : decode cX6_clause 101 = .ok (.goto 4, 3) := by decide +kernel
theorem dX6_clause_104 : decode cX6_clause 104 = .ok (.iconst 0, 1) := by decide +kernel
theorem dX6_clause_105 : decode cX6_clause 105 = .ok (.invokevirtual 43, 3) := by decide +kernel
theorem dX6_clause_108 : decode cX6_clause 108 = .ok (.ifCond .eq 25, 3) := by decide +kernel
theorem dX6_clause_111 : decode cX6_clause 111 = .ok (.aload_n 0, 1) := by decide +kernel
theorem dX6_clause_112 : decode cX6_clause 112 = .ok (.getfield 9, 3) := by decide +kernel
theorem dX6_clause_115 : decode cX6_clause 115 = .ok (.bipush 63, 2) := by decide +kernel
theorem dX6_clause_117 : decode cX6_clause 117 = .ok (.invokevirtual 35, 3) := by decide +kernel
theorem dX6_clause_120 : decode cX6_clause 120 = .ok (.ifCond .eq 13, 3) := by decide +kernel
theorem dX6_clause_123 : decode cX6_clause 123 = .ok (.aload_n 0, 1) := by decide +kernel
theorem dX6_clause_124 : decode cX6_clause 124 = .ok (.iconst 2, 1) := by decide +kernel
theorem dX6_clause_125 : decode cX6_clause 125 = .ok (.iconst 0, 1) := by decide +kernel
theorem dX6_clause_126 : decode cX6_clause 126 = .ok (.iconst 0, 1) := by decide +kernel
theorem dX6_clause_127 : decode cX6_clause 127 = .ok (.invokevirtual 43, 3) := by decide +kernel
theorem dX6_clause_130 : decode cX6_clause 130 = .ok (.ifCond .ne 5, 3) := by decide +kernel
theorem dX6_clause_133 : decode cX6_clause 133 = .ok (.iconst 0, 1) := by decide +kernel
theorem dX6_clause_134 : decode cX6_clause 134 = .ok (.ireturn, 1) := by decide +kernel
theorem dX6_clause_135 : decode cX6_clause 135 = .ok (.aload_n 0, 1) := by decide +kernel
theorem dX6_clause_136 : decode cX6_clause 136 = .ok (.bipush 63, 2) := by decide +kernel
theorem dX6_clause_138 : decode cX6_clause 138 = .ok (.invokevirtual 50, 3) := by decide +kernel
theorem dX6_clause_141 : decode cX6_clause 141 = .ok (.iconst 1, 1) := by decide +kernel
theorem dX6_clause_142 : decode cX6_clause 142 = .ok (.ireturn, 1) := by decide +kernel
theorem dX6_chain_0 : decode cX6_chain 0 = .ok (.aload_n 0, 1) := by decide +kernel
theorem dX6_chain_1 : decode cX6_chain 1 = .ok (.iload_n 1, 1) := by decide +kernel
theorem dX6_chain_2 : decode cX6_chain 2 = .ok (.iload_n 2, 1) := by decide +kernel
theorem dX6_chain_3 : decode cX6_chain 3 = .ok (.iload_n 3, 1) := by decide +kernel
theorem dX6_chain_4 : decode cX6_chain 4 = .ok (.invokevirtual 54, 3) := by decide +kernel
theorem dX6_chain_7 : decode cX6_chain 7 = .ok (.ifCond .ne 5, 3) := by decide +kernel
theorem dX6_chain_10 : decode cX6_chain 10 = .ok (.iconst 0, 1) := by decide +kernel
theorem dX6_chain_11 : decode cX6_chain 11 = .ok (.ireturn, 1) := by decide +kernel
theorem dX6_chain_12 : decode cX6_chain 12 = .ok (.iconst 0, 1) := by decide +kernel
theorem dX6_chain_13 : decode cX6_chain 13 = .ok (.istore 4, 2) := by decide +kernel
theorem dX6_chain_15 : decode cX6_chain 15 = .ok (.iload 4, 2) := by decide +kernel
theorem dX6_chain_17 : decode cX6_chain 17 = .ok (.bipush 120, 2) := by decide +kernel
theorem dX6_chain_19 : decode cX6_chain 19 = .ok (.if_icmp .ge 54, 3) := by decide +kernel
theorem dX6_chain_22 : decode cX6_chain 22 = .ok (.aload_n 0, 1) := by decide +kernel
theorem dX6_chain_23 : decode cX6_chain 23 = .ok (.getfield 9, 3) := by decide +kernel
theorem dX6_chain_26 : decode cX6_chain 26 = .ok (.invokevirtual 39, 3) := by decide +kernel
theorem dX6_chain_29 : decode cX6_chain 29 = .ok (.istore 5, 2) := by decide +kernel
theorem dX6_chain_31 : decode cX6_chain 31 = .ok (.iload_n 1, 1) := by decide +kernel
theorem dX6_chain_32 : decode cX6_chain 32 = .ok (.iload 5, 2) := by decide +kernel
theorem dX6_chain_34 : decode cX6_chain 34 = .ok (.invokestatic 57, 3) := by decide +kernel
theorem dX6_chain_37 : decode cX6_chain 37 = .ok (.ifCond .ne 5, 3) := by decide +kernel
theorem dX6_chain_40 : decode cX6_chain 40 = .ok (.iconst 1, 1) := by decide +kernel
theorem dX6_chain_41 : decode cX6_chain 41 = .ok (.ireturn, 1) := by decide +kernel
theorem dX6_chain_42 : decode cX6_chain 42 = .ok (.aload_n 0, 1) := by decide +kernel
theorem dX6_chain_43 : decode cX6_chain 43 = .ok (.getfield 9, 3) := by decide +kernel
theorem dX6_chain_46 : decode cX6_chain 46 = .ok (.invokevirtual 61, 3) := by decide +kernel
theorem dX6_chain_49 : decode cX6_chain 49 = .ok (.aload_n 0, 1) := by decide +kernel
theorem dX6_chain_50 : decode cX6_chain 50 = .ok (.iload_n 1, 1) := by decide +kernel
theorem dX6_chain_51 : decode cX6_chain 51 = .ok (.iload_n 2, 1) := by decide +kernel
theorem dX6_chain_52 : decode cX6_chain 52 = .ok (.iconst 0, 1) := by decide +kernel
theorem dX6_chain_53 : decode cX6_chain 53 = .ok (.invokevirtual 54, 3) := by decide +kernel
theorem dX6_chain_56 : decode cX6_chain 56 = .ok (.ifCond .ne 5, 3) := by decide +kernel
theorem dX6_chain_59 : decode cX6_chain 59 = .ok (.iconst 0, 1) := by decide +kernel
theorem dX6_chain_60 : decode cX6_chain 60 = .ok (.ireturn, 1) := by decide +kernel
theorem dX6_chain_61 : decode cX6_chain 61 = .ok (.aload_n 0, 1) := by decide +kernel
theorem dX6_chain_62 : decode cX6_chain 62 = .ok (.iload 5, 2) := by decide +kernel
theorem dX6_chain_64 : decode cX6_chain 64 = .ok (.invokevirtual 50, 3) := by decide +kernel
theorem dX6_chain_67 : decode cX6_chain 67 = .ok (.iinc 4 1, 3) := by decide +kernel
theorem dX6_chain_70 : decode cX6_chain 70 = .ok (.goto (-55), 3) := by decide +kernel
theorem dX6_chain_73 : decode cX6_chain 73 = .ok (.iconst 1, 1) := by decide +kernel
theorem dX6_chain_74 : decode cX6_chain 74 = .ok (.ireturn, 1) := by decide +kernel
theorem dX6_joins_0 : decode cX6_joins 0 = .ok (.iload_n 0, 1) := by decide +kernel
theorem dX6_joins_1 : decode cX6_joins 1 = .ok (.tableswitch 69 0 2 #[27, 39, 51], 27) := by decide +kernel
theorem dX6_joins_28 : decode cX6_joins 28 = .ok (.iload_n 1, 1) := by decide +kernel
theorem dX6_joins_29 : decode cX6_joins 29 = .ok (.bipush 124, 2) := by decide +kernel
theorem dX6_joins_31 : decode cX6_joins 31 = .ok (.if_icmp .ne 7, 3) := by decide +kernel
theorem dX6_joins_34 : decode cX6_joins 34 = .ok (.iconst 1, 1) := by decide +kernel
theorem dX6_joins_35 : decode cX6_joins 35 = .ok (.goto 4, 3) := by decide +kernel
theorem dX6_joins_38 : decode cX6_joins 38 = .ok (.iconst 0, 1) := by decide +kernel
theorem dX6_joins_39 : decode cX6_joins 39 = .ok (.ireturn, 1) := by decide +kernel
theorem dX6_joins_40 : decode cX6_joins 40 = .ok (.iload_n 1, 1) := by decide +kernel
theorem dX6_joins_41 : decode cX6_joins 41 = .ok (.bipush 38, 2) := by decide +kernel
theorem dX6_joins_43 : decode cX6_joins 43 = .ok (.if_icmp .ne 7, 3) := by decide +kernel
theorem dX6_joins_46 : decode cX6_joins 46 = .ok (.iconst 1, 1) := by decide +kernel
theorem dX6_joins_47 : decode cX6_joins 47 = .ok (.goto 4, 3) := by decide +kernel
theorem dX6_joins_50 : decode cX6_joins 50 = .ok (.iconst 0, 1) := by decide +kernel
theorem dX6_joins_51 : decode cX6_joins 51 = .ok (.ireturn, 1) := by decide +kernel
theorem dX6_joins_52 : decode cX6_joins 52 = .ok (.iload_n 1, 1) := by decide +kernel
theorem dX6_joins_53 : decode cX6_joins 53 = .ok (.bipush 43, 2) := by decide +kernel
theorem dX6_joins_55 : decode cX6_joins 55 = .ok (.if_icmp .eq 9, 3) := by decide +kernel
theorem dX6_joins_58 : decode cX6_joins 58 = .ok (.iload_n 1, 1) := by decide +kernel
theorem dX6_joins_59 : decode cX6_joins 59 = .ok (.bipush 45, 2) := by decide +kernel
theorem dX6_joins_61 : decode cX6_joins 61 = .ok (.if_icmp .ne 7, 3) := by decide +kernel
theorem dX6_joins_64 : decode cX6_joins 64 = .ok (.iconst 1, 1) := by decide +kernel
theorem dX6_joins_65 : decode cX6_joins 65 = .ok (.goto 4, 3) := by decide +kernel
theorem dX6_joins_68 : decode cX6_joins 68 = .ok (.iconst 0, 1) := by decide +kernel
theorem dX6_joins_69 : decode cX6_joins 69 = .ok (.ireturn, 1) := by decide +kernel
theorem dX6_joins_70 : decode cX6_joins 70 = .ok (.iload_n 1, 1) := by decide +kernel
theorem dX6_joins_71 : decode cX6_joins 71 = .ok (.bipush 42, 2) := by decide +kernel
theorem dX6_joins_73 : decode cX6_joins 73 = .ok (.if_icmp .eq 9, 3) := by decide +kernel
theorem dX6_joins_76 : decode cX6_joins 76 = .ok (.iload_n 1, 1) := by decide +kernel
theorem dX6_joins_77 : decode cX6_joins 77 = .ok (.bipush 47, 2) := by decide +kernel
theorem dX6_joins_79 : decode cX6_joins 79 = .ok (.if_icmp .ne 7, 3) := by decide +kernel
theorem dX6_joins_82 : decode cX6_joins 82 = .ok (.iconst 1, 1) := by decide +kernel
theorem dX6_joins_83 : decode cX6_joins 83 = .ok (.goto 4, 3) := by decide +kernel
theorem dX6_joins_86 : decode cX6_joins 86 = .ok (.iconst 0, 1) := by decide +kernel
theorem dX6_joins_87 : decode cX6_joins 87 = .ok (.ireturn, 1) := by decide +kernel
theorem dX6_part_0 : decode cX6_part 0 = .ok (.iload_n 1, 1) := by decide +kernel
theorem dX6_part_1 : decode cX6_part 1 = .ok (.tableswitch 50 0 2 #[27, 35, 42], 27) := by decide +kernel
theorem dX6_part_28 : decode cX6_part 28 = .ok (.aload_n 0, 1) := by decide +kernel
theorem dX6_part_29 : decode cX6_part 29 = .ok (.iconst 1, 1) := by decide +kernel
theorem dX6_part_30 : decode cX6_part 30 = .ok (.iload_n 2, 1) := by decide +kernel
theorem dX6_part_31 : decode cX6_part 31 = .ok (.iload_n 3, 1) := by decide +kernel
theorem dX6_part_32 : decode cX6_part 32 = .ok (.invokevirtual 43, 3) := by decide +kernel
theorem dX6_part_35 : decode cX6_part 35 = .ok (.ireturn, 1) := by decide +kernel
theorem dX6_part_36 : decode cX6_part 36 = .ok (.aload_n 0, 1) := by decide +kernel
theorem dX6_part_37 : decode cX6_part 37 = .ok (.iload_n 2, 1) := by decide +kernel
theorem dX6_part_38 : decode cX6_part 38 = .ok (.iload_n 3, 1) := by decide +kernel
theorem dX6_part_39 : decode cX6_part 39 = .ok (.invokevirtual 64, 3) := by decide +kernel
theorem dX6_part_42 : decode cX6_part 42 = .ok (.ireturn, 1) := by decide +kernel
theorem dX6_part_43 : decode cX6_part 43 = .ok (.aload_n 0, 1) := by decide +kernel
theorem dX6_part_44 : decode cX6_part 44 = .ok (.iconst 3, 1) := by decide +kernel
theorem dX6_part_45 : decode cX6_part 45 = .ok (.iload_n 2, 1) := by decide +kernel
theorem dX6_part_46 : decode cX6_part 46 = .ok (.iconst 0, 1) := by decide +kernel
theorem dX6_part_47 : decode cX6_part 47 = .ok (.invokevirtual 43, 3) := by decide +kernel
theorem dX6_part_50 : decode cX6_part 50 = .ok (.ireturn, 1) := by decide +kernel
theorem dX6_part_51 : decode cX6_part 51 = .ok (.aload_n 0, 1) := by decide +kernel
theorem dX6_part_52 : decode cX6_part 52 = .ok (.iload_n 2, 1) := by decide +kernel
theorem dX6_part_53 : decode cX6_part 53 = .ok (.invokevirtual 68, 3) := by decide +kernel
theorem dX6_part_56 : decode cX6_part 56 = .ok (.ireturn, 1) := by decide +kernel
theorem dX6_unit_0 : decode cX6_unit 0 = .ok (.aload_n 0, 1) := by decide +kernel
theorem dX6_unit_1 : decode cX6_unit 1 = .ok (.getfield 9, 3) := by decide +kernel
theorem dX6_unit_4 : decode cX6_unit 4 = .ok (.invokevirtual 39, 3) := by decide +kernel
theorem dX6_unit_7 : decode cX6_unit 7 = .ok (.istore_n 3, 1) := by decide +kernel
theorem dX6_unit_8 : decode cX6_unit 8 = .ok (.iload_n 2, 1) := by decide +kernel
theorem dX6_unit_9 : decode cX6_unit 9 = .ok (.ifCond .ne 38, 3) := by decide +kernel
theorem dX6_unit_12 : decode cX6_unit 12 = .ok (.iload_n 3, 1) := by decide +kernel
theorem dX6_unit_13 : decode cX6_unit 13 = .ok (.bipush 33, 2) := by decide +kernel
theorem dX6_unit_15 : decode cX6_unit 15 = .ok (.if_icmp .ne 32, 3) := by decide +kernel
theorem dX6_unit_18 : decode cX6_unit 18 = .ok (.aload_n 0, 1) := by decide +kernel
theorem dX6_unit_19 : decode cX6_unit 19 = .ok (.iload_n 1, 1) := by decide +kernel
theorem dX6_unit_20 : decode cX6_unit 20 = .ok (.invokevirtual 71, 3) := by decide +kernel
theorem dX6_unit_23 : decode cX6_unit 23 = .ok (.ifCond .eq 14, 3) := by decide +kernel
theorem dX6_unit_26 : decode cX6_unit 26 = .ok (.aload_n 0, 1) := by decide +kernel
theorem dX6_unit_27 : decode cX6_unit 27 = .ok (.iload_n 1, 1) := by decide +kernel
theorem dX6_unit_28 : decode cX6_unit 28 = .ok (.iconst 1, 1) := by decide +kernel
theorem dX6_unit_29 : decode cX6_unit 29 = .ok (.iadd, 1) := by decide +kernel
theorem dX6_unit_30 : decode cX6_unit 30 = .ok (.iconst 0, 1) := by decide +kernel
theorem dX6_unit_31 : decode cX6_unit 31 = .ok (.invokevirtual 64, 3) := by decide +kernel
theorem dX6_unit_34 : decode cX6_unit 34 = .ok (.ifCond .ne 5, 3) := by decide +kernel
theorem dX6_unit_37 : decode cX6_unit 37 = .ok (.iconst 0, 1) := by decide +kernel
theorem dX6_unit_38 : decode cX6_unit 38 = .ok (.ireturn, 1) := by decide +kernel
theorem dX6_unit_39 : decode cX6_unit 39 = .ok (.aload_n 0, 1) := by decide +kernel
theorem dX6_unit_40 : decode cX6_unit 40 = .ok (.bipush 33, 2) := by decide +kernel
theorem dX6_unit_42 : decode cX6_unit 42 = .ok (.invokevirtual 50, 3) := by decide +kernel
theorem dX6_unit_45 : decode cX6_unit 45 = .ok (.iconst 1, 1) := by decide +kernel
theorem dX6_unit_46 : decode cX6_unit 46 = .ok (.ireturn, 1) := by decide +kernel
theorem dX6_unit_47 : decode cX6_unit 47 = .ok (.iload_n 2, 1) := by decide +kernel
theorem dX6_unit_48 : decode cX6_unit 48 = .ok (.ifCond .ne 47, 3) := by decide +kernel
theorem dX6_unit_51 : decode cX6_unit 51 = .ok (.iload_n 3, 1) := by decide +kernel
theorem dX6_unit_52 : decode cX6_unit 52 = .ok (.bipush 40, 2) := by decide +kernel
theorem dX6_unit_54 : decode cX6_unit 54 = .ok (.if_icmp .ne 41, 3) := by decide +kernel
theorem dX6_unit_57 : decode cX6_unit 57 = .ok (.aload_n 0, 1) := by decide +kernel
theorem dX6_unit_58 : decode cX6_unit 58 = .ok (.iload_n 1, 1) := by decide +kernel
theorem dX6_unit_59 : decode cX6_unit 59 = .ok (.invokevirtual 71, 3) := by decide +kernel
theorem dX6_unit_62 : decode cX6_unit 62 = .ok (.ifCond .eq 31, 3) := by decide +kernel
theorem dX6_unit_65 : decode cX6_unit 65 = .ok (.aload_n 0, 1) := by decide +kernel
theorem dX6_unit_66 : decode cX6_unit 66 = .ok (.iconst 0, 1) := by decide +kernel
theorem dX6_unit_67 : decode cX6_unit 67 = .ok (.iload_n 1, 1) := by decide +kernel
theorem dX6_unit_68 : decode cX6_unit 68 = .ok (.iconst 1, 1) := by decide +kernel
theorem dX6_unit_69 : decode cX6_unit 69 = .ok (.iadd, 1) := by decide +kernel
theorem dX6_unit_70 : decode cX6_unit 70 = .ok (.iconst 0, 1) := by decide +kernel
theorem dX6_unit_71 : decode cX6_unit 71 = .ok (.invokevirtual 43, 3) := by decide +kernel
theorem dX6_unit_74 : decode cX6_unit 74 = .ok (.ifCond .eq 19, 3) := by decide +kernel
theorem dX6_unit_77 : decode cX6_unit 77 = .ok (.aload_n 0, 1) := by decide +kernel
theorem dX6_unit_78 : decode cX6_unit 78 = .ok (.getfield 9, 3) := by decide +kernel
theorem dX6_unit_81 : decode cX6_unit 81 = .ok (.bipush 41, 2) := by decide +kernel
theorem dX6_unit_83 : decode cX6_unit 83 = .ok (.invokevirtual 35, 3) := by decide +kernel
theorem dX6_unit_86 : decode cX6_unit 86 = .ok (.ifCond .eq 7, 3) := by decide +kernel
theorem dX6_unit_89 : decode cX6_unit 89 = .ok (.iconst 1, 1) := by decide +kernel
theorem dX6_unit_90 : decode cX6_unit 90 = .ok (.goto 4, 3) := by decide +kernel
theorem dX6_unit_93 : decode cX6_unit 93 = .ok (.iconst 0, 1) := by decide +kernel
theorem dX6_unit_94 : decode cX6_unit 94 = .ok (.ireturn, 1) := by decide +kernel
theorem dX6_unit_95 : decode cX6_unit 95 = .ok (.iload_n 2, 1) := by decide +kernel
theorem dX6_unit_96 : decode cX6_unit 96 = .ok (.ifCond .ne 15, 3) := by decide +kernel
theorem dX6_unit_99 : decode cX6_unit 99 = .ok (.aload_n 0, 1) := by decide +kernel
theorem dX6_unit_100 : decode cX6_unit 100 = .ok (.iconst 2, 1) := by decide +kernel
theorem dX6_unit_101 : decode cX6_unit 101 = .ok (.iload_n 1, 1) := by decide +kernel
theorem dX6_unit_102 : decode cX6_unit 102 = .ok (.iconst 0, 1) := by decide +kernel
theorem dX6_unit_103 : decode cX6_unit 103 = .ok (.invokevirtual 43, 3) := by decide +kernel
theorem dX6_unit_106 : decode cX6_unit 106 = .ok (.ifCond .ne 5, 3) := by decide +kernel
theorem dX6_unit_109 : decode cX6_unit 109 = .ok (.iconst 0, 1) := by decide +kernel
theorem dX6_unit_110 : decode cX6_unit 110 = .ok (.ireturn, 1) := by decide +kernel
theorem dX6_unit_111 : decode cX6_unit 111 = .ok (.aload_n 0, 1) := by decide +kernel
theorem dX6_unit_112 : decode cX6_unit 112 = .ok (.getfield 9, 3) := by decide +kernel
theorem dX6_unit_115 : decode cX6_unit 115 = .ok (.invokevirtual 39, 3) := by decide +kernel
theorem dX6_unit_118 : decode cX6_unit 118 = .ok (.istore 4, 2) := by decide +kernel
theorem dX6_unit_120 : decode cX6_unit 120 = .ok (.iload 4, 2) := by decide +kernel
theorem dX6_unit_122 : decode cX6_unit 122 = .ok (.invokestatic 47, 3) := by decide +kernel
theorem dX6_unit_125 : decode cX6_unit 125 = .ok (.ifCond .ne 5, 3) := by decide +kernel
theorem dX6_unit_128 : decode cX6_unit 128 = .ok (.iconst 0, 1) := by decide +kernel
theorem dX6_unit_129 : decode cX6_unit 129 = .ok (.ireturn, 1) := by decide +kernel
theorem dX6_unit_130 : decode cX6_unit 130 = .ok (.aload_n 0, 1) := by decide +kernel
theorem dX6_unit_131 : decode cX6_unit 131 = .ok (.getfield 9, 3) := by decide +kernel
theorem dX6_unit_134 : decode cX6_unit 134 = .ok (.invokevirtual 61, 3) := by decide +kernel
theorem dX6_unit_137 : decode cX6_unit 137 = .ok (.aload_n 0, 1) := by decide +kernel
theorem dX6_unit_138 : decode cX6_unit 138 = .ok (.iconst 2, 1) := by decide +kernel
theorem dX6_unit_139 : decode cX6_unit 139 = .ok (.iload_n 1, 1) := by decide +kernel
theorem dX6_unit_140 : decode cX6_unit 140 = .ok (.iconst 0, 1) := by decide +kernel
theorem dX6_unit_141 : decode cX6_unit 141 = .ok (.invokevirtual 43, 3) := by decide +kernel
theorem dX6_unit_144 : decode cX6_unit 144 = .ok (.ifCond .ne 5, 3) := by decide +kernel
theorem dX6_unit_147 : decode cX6_unit 147 = .ok (.iconst 0, 1) := by decide +kernel
theorem dX6_unit_148 : decode cX6_unit 148 = .ok (.ireturn, 1) := by decide +kernel
theorem dX6_unit_149 : decode cX6_unit 149 = .ok (.aload_n 0, 1) := by decide +kernel
theorem dX6_unit_150 : decode cX6_unit 150 = .ok (.iload 4, 2) := by decide +kernel
theorem dX6_unit_152 : decode cX6_unit 152 = .ok (.invokevirtual 50, 3) := by decide +kernel
theorem dX6_unit_155 : decode cX6_unit 155 = .ok (.iconst 1, 1) := by decide +kernel
theorem dX6_unit_156 : decode cX6_unit 156 = .ok (.ireturn, 1) := by decide +kernel
theorem dX6_compares_0 : decode cX6_compares 0 = .ok (.iload_n 0, 1) := by decide +kernel
theorem dX6_compares_1 : decode cX6_compares 1 = .ok (.bipush 61, 2) := by decide +kernel
theorem dX6_compares_3 : decode cX6_compares 3 = .ok (.if_icmp .eq 15, 3) := by decide +kernel
theorem dX6_compares_6 : decode cX6_compares 6 = .ok (.iload_n 0, 1) := by decide +kernel
theorem dX6_compares_7 : decode cX6_compares 7 = .ok (.bipush 60, 2) := by decide +kernel
theorem dX6_compares_9 : decode cX6_compares 9 = .ok (.if_icmp .eq 9, 3) := by decide +kernel
theorem dX6_compares_12 : decode cX6_compares 12 = .ok (.iload_n 0, 1) := by decide +kernel
theorem dX6_compares_13 : decode cX6_compares 13 = .ok (.bipush 62, 2) := by decide +kernel
theorem dX6_compares_15 : decode cX6_compares 15 = .ok (.if_icmp .ne 7, 3) := by decide +kernel
theorem dX6_compares_18 : decode cX6_compares 18 = .ok (.iconst 1, 1) := by decide +kernel
theorem dX6_compares_19 : decode cX6_compares 19 = .ok (.goto 4, 3) := by decide +kernel
theorem dX6_compares_22 : decode cX6_compares 22 = .ok (.iconst 0, 1) := by decide +kernel
theorem dX6_compares_23 : decode cX6_compares 23 = .ok (.ireturn, 1) := by decide +kernel
theorem dX6_atom_0 : decode cX6_atom 0 = .ok (.aload_n 0, 1) := by decide +kernel
theorem dX6_atom_1 : decode cX6_atom 1 = .ok (.getfield 9, 3) := by decide +kernel
theorem dX6_atom_4 : decode cX6_atom 4 = .ok (.invokevirtual 39, 3) := by decide +kernel
theorem dX6_atom_7 : decode cX6_atom 7 = .ok (.istore_n 2, 1) := by decide +kernel
theorem dX6_atom_8 : decode cX6_atom 8 = .ok (.iload_n 2, 1) := by decide +kernel
theorem dX6_atom_9 : decode cX6_atom 9 = .ok (.bipush 91, 2) := by decide +kernel
theorem dX6_atom_11 : decode cX6_atom 11 = .ok (.if_icmp .ne 41, 3) := by decide +kernel
theorem dX6_atom_14 : decode cX6_atom 14 = .ok (.aload_n 0, 1) := by decide +kernel
theorem dX6_atom_15 : decode cX6_atom 15 = .ok (.iload_n 1, 1) := by decide +kernel
theorem dX6_atom_16 : decode cX6_atom 16 = .ok (.invokevirtual 71, 3) := by decide +kernel
theorem dX6_atom_19 : decode cX6_atom 19 = .ok (.ifCond .eq 31, 3) := by decide +kernel
theorem dX6_atom_22 : decode cX6_atom 22 = .ok (.aload_n 0, 1) := by decide +kernel
theorem dX6_atom_23 : decode cX6_atom 23 = .ok (.iconst 2, 1) := by decide +kernel
theorem dX6_atom_24 : decode cX6_atom 24 = .ok (.iload_n 1, 1) := by decide +kernel
theorem dX6_atom_25 : decode cX6_atom 25 = .ok (.iconst 1, 1) := by decide +kernel
theorem dX6_atom_26 : decode cX6_atom 26 = .ok (.iadd, 1) := by decide +kernel
theorem dX6_atom_27 : decode cX6_atom 27 = .ok (.iconst 0, 1) := by decide +kernel
theorem dX6_atom_28 : decode cX6_atom 28 = .ok (.invokevirtual 43, 3) := by decide +kernel
theorem dX6_atom_31 : decode cX6_atom 31 = .ok (.ifCond .eq 19, 3) := by decide +kernel
theorem dX6_atom_34 : decode cX6_atom 34 = .ok (.aload_n 0, 1) := by decide +kernel
theorem dX6_atom_35 : decode cX6_atom 35 = .ok (.getfield 9, 3) := by decide +kernel
theorem dX6_atom_38 : decode cX6_atom 38 = .ok (.bipush 93, 2) := by decide +kernel
theorem dX6_atom_40 : decode cX6_atom 40 = .ok (.invokevirtual 35, 3) := by decide +kernel
theorem dX6_atom_43 : decode cX6_atom 43 = .ok (.ifCond .eq 7, 3) := by decide +kernel
theorem dX6_atom_46 : decode cX6_atom 46 = .ok (.iconst 1, 1) := by decide +kernel
theorem dX6_atom_47 : decode cX6_atom 47 = .ok (.goto 4, 3) := by decide +kernel
theorem dX6_atom_50 : decode cX6_atom 50 = .ok (.iconst 0, 1) := by decide +kernel
theorem dX6_atom_51 : decode cX6_atom 51 = .ok (.ireturn, 1) := by decide +kernel
theorem dX6_atom_52 : decode cX6_atom 52 = .ok (.iload_n 2, 1) := by decide +kernel
theorem dX6_atom_53 : decode cX6_atom 53 = .ok (.bipush 107, 2) := by decide +kernel
theorem dX6_atom_55 : decode cX6_atom 55 = .ok (.if_icmp .eq 21, 3) := by decide +kernel
theorem dX6_atom_58 : decode cX6_atom 58 = .ok (.iload_n 2, 1) := by decide +kernel
theorem dX6_atom_59 : decode cX6_atom 59 = .ok (.bipush 110, 2) := by decide +kernel
theorem dX6_atom_61 : decode cX6_atom 61 = .ok (.if_icmp .eq 15, 3) := by decide +kernel
theorem dX6_atom_64 : decode cX6_atom 64 = .ok (.iload_n 2, 1) := by decide +kernel
theorem dX6_atom_65 : decode cX6_atom 65 = .ok (.bipush 97, 2) := by decide +kernel
theorem dX6_atom_67 : decode cX6_atom 67 = .ok (.if_icmp .eq 9, 3) := by decide +kernel
theorem dX6_atom_70 : decode cX6_atom 70 = .ok (.iload_n 2, 1) := by decide +kernel
theorem dX6_atom_71 : decode cX6_atom 71 = .ok (.bipush 98, 2) := by decide +kernel
theorem dX6_atom_73 : decode cX6_atom 73 = .ok (.if_icmp .ne 17, 3) := by decide +kernel
theorem dX6_atom_76 : decode cX6_atom 76 = .ok (.aload_n 0, 1) := by decide +kernel
theorem dX6_atom_77 : decode cX6_atom 77 = .ok (.getfield 9, 3) := by decide +kernel
theorem dX6_atom_80 : decode cX6_atom 80 = .ok (.invokevirtual 61, 3) := by decide +kernel
theorem dX6_atom_83 : decode cX6_atom 83 = .ok (.aload_n 0, 1) := by decide +kernel
theorem dX6_atom_84 : decode cX6_atom 84 = .ok (.iload_n 2, 1) := by decide +kernel
theorem dX6_atom_85 : decode cX6_atom 85 = .ok (.invokevirtual 50, 3) := by decide +kernel
theorem dX6_atom_88 : decode cX6_atom 88 = .ok (.iconst 1, 1) := by decide +kernel
theorem dX6_atom_89 : decode cX6_atom 89 = .ok (.ireturn, 1) := by decide +kernel
theorem dX6_atom_90 : decode cX6_atom 90 = .ok (.aload_n 0, 1) := by decide +kernel
theorem dX6_atom_91 : decode cX6_atom 91 = .ok (.invokevirtual 74, 3) := by decide +kernel
theorem dX6_atom_94 : decode cX6_atom 94 = .ok (.ireturn, 1) := by decide +kernel
theorem dX6_goesDeeper_0 : decode cX6_goesDeeper 0 = .ok (.iload_n 1, 1) := by decide +kernel
theorem dX6_goesDeeper_1 : decode cX6_goesDeeper 1 = .ok (.bipush 6, 2) := by decide +kernel
theorem dX6_goesDeeper_3 : decode cX6_goesDeeper 3 = .ok (.if_icmp .lt 5, 3) := by decide +kernel
theorem dX6_goesDeeper_6 : decode cX6_goesDeeper 6 = .ok (.iconst 0, 1) := by decide +kernel
theorem dX6_goesDeeper_7 : decode cX6_goesDeeper 7 = .ok (.ireturn, 1) := by decide +kernel
theorem dX6_goesDeeper_8 : decode cX6_goesDeeper 8 = .ok (.aload_n 0, 1) := by decide +kernel
theorem dX6_goesDeeper_9 : decode cX6_goesDeeper 9 = .ok (.getfield 9, 3) := by decide +kernel
theorem dX6_goesDeeper_12 : decode cX6_goesDeeper 12 = .ok (.invokevirtual 61, 3) := by decide +kernel
theorem dX6_goesDeeper_15 : decode cX6_goesDeeper 15 = .ok (.iconst 1, 1) := by decide +kernel
theorem dX6_goesDeeper_16 : decode cX6_goesDeeper 16 = .ok (.ireturn, 1) := by decide +kernel
theorem dX6_number_0 : decode cX6_number 0 = .ok (.iconst 0, 1) := by decide +kernel
theorem dX6_number_1 : decode cX6_number 1 = .ok (.istore_n 1, 1) := by decide +kernel
theorem dX6_number_2 : decode cX6_number 2 = .ok (.iconst 0, 1) := by decide +kernel
theorem dX6_number_3 : decode cX6_number 3 = .ok (.istore_n 2, 1) := by decide +kernel
theorem dX6_number_4 : decode cX6_number 4 = .ok (.iload_n 2, 1) := by decide +kernel
theorem dX6_number_5 : decode cX6_number 5 = .ok (.iconst 4, 1) := by decide +kernel
theorem dX6_number_6 : decode cX6_number 6 = .ok (.if_icmp .ge 40, 3) := by decide +kernel
theorem dX6_number_9 : decode cX6_number 9 = .ok (.aload_n 0, 1) := by decide +kernel
theorem dX6_number_10 : decode cX6_number 10 = .ok (.getfield 9, 3) := by decide +kernel
theorem dX6_number_13 : decode cX6_number 13 = .ok (.invokevirtual 77, 3) := by decide +kernel
theorem dX6_number_16 : decode cX6_number 16 = .ok (.iconst (-1), 1) := by decide +kernel
theorem dX6_number_17 : decode cX6_number 17 = .ok (.if_icmp .eq 29, 3) := by decide +kernel
theorem dX6_number_20 : decode cX6_number 20 = .ok (.iload_n 1, 1) := by decide +kernel
theorem dX6_number_21 : decode cX6_number 21 = .ok (.bipush 10, 2) := by decide +kernel
theorem dX6_number_23 : decode cX6_number 23 = .ok (.imul, 1) := by decide +kernel
theorem dX6_number_24 : decode cX6_number 24 = .ok (.aload_n 0, 1) := by decide +kernel
theorem dX6_number_25 : decode cX6_number 25 = .ok (.getfield 9, 3) := by decide +kernel
theorem dX6_number_28 : decode cX6_number 28 = .ok (.invokevirtual 77, 3) := by decide +kernel
theorem dX6_number_31 : decode cX6_number 31 = .ok (.iadd, 1) := by decide +kernel
theorem dX6_number_32 : decode cX6_number 32 = .ok (.istore_n 1, 1) := by decide +kernel
theorem dX6_number_33 : decode cX6_number 33 = .ok (.aload_n 0, 1) := by decide +kernel
theorem dX6_number_34 : decode cX6_number 34 = .ok (.getfield 9, 3) := by decide +kernel
theorem dX6_number_37 : decode cX6_number 37 = .ok (.invokevirtual 61, 3) := by decide +kernel
theorem dX6_number_40 : decode cX6_number 40 = .ok (.iinc 2 1, 3) := by decide +kernel
theorem dX6_number_43 : decode cX6_number 43 = .ok (.goto (-39), 3) := by decide +kernel
theorem dX6_number_46 : decode cX6_number 46 = .ok (.iload_n 2, 1) := by decide +kernel
theorem dX6_number_47 : decode cX6_number 47 = .ok (.ifCond .ne 5, 3) := by decide +kernel
theorem dX6_number_50 : decode cX6_number 50 = .ok (.iconst 0, 1) := by decide +kernel
theorem dX6_number_51 : decode cX6_number 51 = .ok (.ireturn, 1) := by decide +kernel
theorem dX6_number_52 : decode cX6_number 52 = .ok (.aload_n 0, 1) := by decide +kernel
theorem dX6_number_53 : decode cX6_number 53 = .ok (.iload_n 1, 1) := by decide +kernel
theorem dX6_number_54 : decode cX6_number 54 = .ok (.invokevirtual 80, 3) := by decide +kernel
theorem dX6_number_57 : decode cX6_number 57 = .ok (.iconst 1, 1) := by decide +kernel
theorem dX6_number_58 : decode cX6_number 58 = .ok (.ireturn, 1) := by decide +kernel
theorem dX6_makeSign_0 : decode cX6_makeSign 0 = .ok (.aload_n 0, 1) := by decide +kernel
theorem dX6_makeSign_1 : decode cX6_makeSign 1 = .ok (.iload_n 1, 1) := by decide +kernel
theorem dX6_makeSign_2 : decode cX6_makeSign 2 = .ok (.ineg, 1) := by decide +kernel
theorem dX6_makeSign_3 : decode cX6_makeSign 3 = .ok (.invokevirtual 80, 3) := by decide +kernel
theorem dX6_makeSign_6 : decode cX6_makeSign 6 = .ok (.return_, 1) := by decide +kernel
theorem dX6_make_0 : decode cX6_make 0 = .ok (.aload_n 0, 1) := by decide +kernel
theorem dX6_make_1 : decode cX6_make 1 = .ok (.getfield 21, 3) := by decide +kernel
theorem dX6_make_4 : decode cX6_make 4 = .ok (.aload_n 0, 1) := by decide +kernel
theorem dX6_make_5 : decode cX6_make 5 = .ok (.getfield 17, 3) := by decide +kernel
theorem dX6_make_8 : decode cX6_make 8 = .ok (.arraylength, 1) := by decide +kernel
theorem dX6_make_9 : decode cX6_make 9 = .ok (.if_icmp .ge 23, 3) := by decide +kernel
theorem dX6_make_12 : decode cX6_make 12 = .ok (.aload_n 0, 1) := by decide +kernel
theorem dX6_make_13 : decode cX6_make 13 = .ok (.getfield 17, 3) := by decide +kernel
theorem dX6_make_16 : decode cX6_make 16 = .ok (.aload_n 0, 1) := by decide +kernel
theorem dX6_make_17 : decode cX6_make 17 = .ok (.getfield 21, 3) := by decide +kernel
theorem dX6_make_20 : decode cX6_make 20 = .ok (.iload_n 1, 1) := by decide +kernel
theorem dX6_make_21 : decode cX6_make 21 = .ok (.iastore, 1) := by decide +kernel
theorem dX6_make_22 : decode cX6_make 22 = .ok (.aload_n 0, 1) := by decide +kernel
theorem dX6_make_23 : decode cX6_make 23 = .ok (.dup, 1) := by decide +kernel
theorem dX6_make_24 : decode cX6_make 24 = .ok (.getfield 21, 3) := by decide +kernel
theorem dX6_make_27 : decode cX6_make 27 = .ok (.iconst 1, 1) := by decide +kernel
theorem dX6_make_28 : decode cX6_make 28 = .ok (.iadd, 1) := by decide +kernel
theorem dX6_make_29 : decode cX6_make 29 = .ok (.putfield 21, 3) := by decide +kernel
theorem dX6_make_32 : decode cX6_make 32 = .ok (.return_, 1) := by decide +kernel
theorem dX7_init_0 : decode cX7_init 0 = .ok (.aload_n 0, 1) := by decide +kernel
theorem dX7_init_1 : decode cX7_init 1 = .ok (.invokespecial 3, 3) := by decide +kernel
theorem dX7_init_4 : decode cX7_init 4 = .ok (.aload_n 0, 1) := by decide +kernel
theorem dX7_init_5 : decode cX7_init 5 = .ok (.sipush 720, 3) := by decide +kernel
theorem dX7_init_8 : decode cX7_init 8 = .ok (.newarray .int, 2) := by decide +kernel
theorem dX7_init_10 : decode cX7_init 10 = .ok (.putfield 13, 3) := by decide +kernel
theorem dX7_init_13 : decode cX7_init 13 = .ok (.aload_n 0, 1) := by decide +kernel
theorem dX7_init_14 : decode cX7_init 14 = .ok (.bipush 6, 2) := by decide +kernel
theorem dX7_init_16 : decode cX7_init 16 = .ok (.newarray .int, 2) := by decide +kernel
theorem dX7_init_18 : decode cX7_init 18 = .ok (.putfield 17, 3) := by decide +kernel
theorem dX7_init_21 : decode cX7_init 21 = .ok (.aload_n 0, 1) := by decide +kernel
theorem dX7_init_22 : decode cX7_init 22 = .ok (.bipush 120, 2) := by decide +kernel
theorem dX7_init_24 : decode cX7_init 24 = .ok (.newarray .int, 2) := by decide +kernel
theorem dX7_init_26 : decode cX7_init 26 = .ok (.putfield 20, 3) := by decide +kernel
theorem dX7_init_29 : decode cX7_init 29 = .ok (.return_, 1) := by decide +kernel
theorem dX7_hasOrNone_0 : decode cX7_hasOrNone 0 = .ok (.iload_n 1, 1) := by decide +kernel
theorem dX7_hasOrNone_1 : decode cX7_hasOrNone 1 = .ok (.iconst (-1), 1) := by decide +kernel
theorem dX7_hasOrNone_2 : decode cX7_hasOrNone 2 = .ok (.if_icmp .lt 15, 3) := by decide +kernel
theorem dX7_hasOrNone_5 : decode cX7_hasOrNone 5 = .ok (.iload_n 1, 1) := by decide +kernel
theorem dX7_hasOrNone_6 : decode cX7_hasOrNone 6 = .ok (.aload_n 0, 1) := by decide +kernel
theorem dX7_hasOrNone_7 : decode cX7_hasOrNone 7 = .ok (.getfield 23, 3) := by decide +kernel
theorem dX7_hasOrNone_10 : decode cX7_hasOrNone 10 = .ok (.if_icmp .ge 7, 3) := by decide +kernel
theorem dX7_hasOrNone_13 : decode cX7_hasOrNone 13 = .ok (.iconst 1, 1) := by decide +kernel
theorem dX7_hasOrNone_14 : decode cX7_hasOrNone 14 = .ok (.goto 4, 3) := by decide +kernel
theorem dX7_hasOrNone_17 : decode cX7_hasOrNone 17 = .ok (.iconst 0, 1) := by decide +kernel
theorem dX7_hasOrNone_18 : decode cX7_hasOrNone 18 = .ok (.ireturn, 1) := by decide +kernel
theorem dX7_keep_0 : decode cX7_keep 0 = .ok (.aload_n 0, 1) := by decide +kernel
theorem dX7_keep_1 : decode cX7_keep 1 = .ok (.getfield 23, 3) := by decide +kernel
theorem dX7_keep_4 : decode cX7_keep 4 = .ok (.bipush 6, 2) := by decide +kernel
theorem dX7_keep_6 : decode cX7_keep 6 = .ok (.if_icmp .lt 5, 3) := by decide +kernel
theorem dX7_keep_9 : decode cX7_keep 9 = .ok (.iconst (-1), 1) := by decide +kernel
theorem dX7_keep_10 : decode cX7_keep 10 = .ok (.ireturn, 1) := by decide +kernel
theorem dX7_keep_11 : decode cX7_keep 11 = .ok (.aload_n 1, 1) := by decide +kernel
theorem dX7_keep_12 : decode cX7_keep 12 = .ok (.getfield 27, 3) := by decide +kernel
theorem dX7_keep_15 : decode cX7_keep 15 = .ok (.bipush 120, 2) := by decide +kernel
theorem dX7_keep_17 : decode cX7_keep 17 = .ok (.invokestatic 32, 3) := by decide +kernel
theorem dX7_keep_20 : decode cX7_keep 20 = .ok (.istore_n 2, 1) := by decide +kernel
theorem dX7_keep_21 : decode cX7_keep 21 = .ok (.iconst 0, 1) := by decide +kernel
theorem dX7_keep_22 : decode cX7_keep 22 = .ok (.istore_n 3, 1) := by decide +kernel
theorem dX7_keep_23 : decode cX7_keep 23 = .ok (.iload_n 3, 1) := by decide +kernel
theorem dX7_keep_24 : decode cX7_keep 24 = .ok (.iload_n 2, 1) := by decide +kernel
theorem dX7_keep_25 : decode cX7_keep 25 = .ok (.if_icmp .ge 29, 3) := by decide +kernel
theorem dX7_keep_28 : decode cX7_keep 28 = .ok (.aload_n 0, 1) := by decide +kernel
theorem dX7_keep_29 : decode cX7_keep 29 = .ok (.getfield 13, 3) := by decide +kernel
theorem dX7_keep_32 : decode cX7_keep 32 = .ok (.aload_n 0, 1) := by decide +kernel
theorem dX7_keep_33 : decode cX7_keep 33 = .ok (.getfield 23, 3) := by decide +kernel
theorem dX7_keep_36 : decode cX7_keep 36 = .ok (.bipush 120, 2) := by decide +kernel
theorem dX7_keep_38 : decode cX7_keep 38 = .ok (.imul, 1) := by decide +kernel
theorem dX7_keep_39 : decode cX7_keep 39 = .ok (.iload_n 3, 1) := by decide +kernel
theorem dX7_keep_40 : decode cX7_keep 40 = .ok (.iadd, 1) := by decide +kernel
theorem dX7_keep_41 : decode cX7_keep 41 = .ok (.aload_n 1, 1) := by decide +kernel
theorem dX7_keep_42 : decode cX7_keep 42 = .ok (.getfield 38, 3) := by decide +kernel
theorem dX7_keep_45 : decode cX7_keep 45 = .ok (.iload_n 3, 1) := by decide +kernel
theorem dX7_keep_46 : decode cX7_keep 46 = .ok (.iaload, 1) := by decide +kernel
theorem dX7_keep_47 : decode cX7_keep 47 = .ok (.iastore, 1) := by decide +kernel
theorem dX7_keep_48 : decode cX7_keep 48 = .ok (.iinc 3 1, 3) := by decide +kernel
theorem dX7_keep_51 : decode cX7_keep 51 = .ok (.goto (-28), 3) := by decide +kernel
theorem dX7_keep_54 : decode cX7_keep 54 = .ok (.aload_n 0, 1) := by decide +kernel
theorem dX7_keep_55 : decode cX7_keep 55 = .ok (.getfield 17, 3) := by decide +kernel
theorem dX7_keep_58 : decode cX7_keep 58 = .ok (.aload_n 0, 1) := by decide +kernel
theorem dX7_keep_59 : decode cX7_keep 59 = .ok (.getfield 23, 3) := by decide +kernel
theorem dX7_keep_62 : decode cX7_keep 62 = .ok (.iload_n 2, 1) := by decide +kernel
theorem dX7_keep_63 : decode cX7_keep 63 = .ok (.iastore, 1) := by decide +kernel
theorem dX7_keep_64 : decode cX7_keep 64 = .ok (.aload_n 0, 1) := by decide +kernel
theorem dX7_keep_65 : decode cX7_keep 65 = .ok (.dup, 1) := by decide +kernel
theorem dX7_keep_66 : decode cX7_keep 66 = .ok (.getfield 23, 3) := by decide +kernel
theorem dX7_keep_69 : decode cX7_keep 69 = .ok (.iconst 1, 1) := by decide +kernel
theorem dX7_keep_70 : decode cX7_keep 70 = .ok (.iadd, 1) := by decide +kernel
theorem dX7_keep_71 : decode cX7_keep 71 = .ok (.putfield 23, 3) := by decide +kernel
theorem dX7_keep_74 : decode cX7_keep 74 = .ok (.aload_n 0, 1) := by decide +kernel
theorem dX7_keep_75 : decode cX7_keep 75 = .ok (.getfield 23, 3) := by decide +kernel
theorem dX7_keep_78 : decode cX7_keep 78 = .ok (.iconst 1, 1) := by decide +kernel
theorem dX7_keep_79 : decode cX7_keep 79 = .ok (.isub, 1) := by decide +kernel
theorem dX7_keep_80 : decode cX7_keep 80 = .ok (.ireturn, 1) := by decide +kernel
theorem dX7_weightOf_0 : decode cX7_weightOf 0 = .ok (.iload_n 1, 1) := by decide +kernel
theorem dX7_weightOf_1 : decode cX7_weightOf 1 = .ok (.ifCond .lt 11, 3) := by decide +kernel
theorem dX7_weightOf_4 : decode cX7_weightOf 4 = .ok (.iload_n 1, 1) := by decide +kernel
theorem dX7_weightOf_5 : decode cX7_weightOf 5 = .ok (.aload_n 0, 1) := by decide +kernel
theorem dX7_weightOf_6 : decode cX7_weightOf 6 = .ok (.getfield 23, 3) := by decide +kernel
theorem dX7_weightOf_9 : decode cX7_weightOf 9 = .ok (.if_icmp .lt 5, 3) := by decide +kernel
theorem dX7_weightOf_12 : decode cX7_weightOf 12 = .ok (.iconst 1, 1) := by decide +kernel
theorem dX7_weightOf_13 : decode cX7_weightOf 13 = .ok (.ireturn, 1) := by decide +kernel
theorem dX7_weightOf_14 : decode cX7_weightOf 14 = .ok (.iload 4, 2) := by decide +kernel
theorem dX7_weightOf_16 : decode cX7_weightOf 16 = .ok (.ifCond .ne 7, 3) := by decide +kernel
theorem dX7_weightOf_19 : decode cX7_weightOf 19 = .ok (.iconst 1, 1) := by decide +kernel
theorem dX7_weightOf_20 : decode cX7_weightOf 20 = .ok (.goto 14, 3) := by decide +kernel
theorem dX7_weightOf_23 : decode cX7_weightOf 23 = .ok (.iload 4, 2) := by decide +kernel
theorem dX7_weightOf_25 : decode cX7_weightOf 25 = .ok (.iconst 2, 1) := by decide +kernel
theorem dX7_weightOf_26 : decode cX7_weightOf 26 = .ok (.if_icmp .ne 7, 3) := by decide +kernel
theorem dX7_weightOf_29 : decode cX7_weightOf 29 = .ok (.iconst (-1), 1) := by decide +kernel
theorem dX7_weightOf_30 : decode cX7_weightOf 30 = .ok (.goto 4, 3) := by decide +kernel
theorem dX7_weightOf_33 : decode cX7_weightOf 33 = .ok (.iconst 0, 1) := by decide +kernel
theorem dX7_weightOf_34 : decode cX7_weightOf 34 = .ok (.istore 5, 2) := by decide +kernel
theorem dX7_weightOf_36 : decode cX7_weightOf 36 = .ok (.iload 4, 2) := by decide +kernel
theorem dX7_weightOf_38 : decode cX7_weightOf 38 = .ok (.iconst 1, 1) := by decide +kernel
theorem dX7_weightOf_39 : decode cX7_weightOf 39 = .ok (.if_icmp .ne 7, 3) := by decide +kernel
theorem dX7_weightOf_42 : decode cX7_weightOf 42 = .ok (.iconst 1, 1) := by decide +kernel
theorem dX7_weightOf_43 : decode cX7_weightOf 43 = .ok (.goto 14, 3) := by decide +kernel
theorem dX7_weightOf_46 : decode cX7_weightOf 46 = .ok (.iload 4, 2) := by decide +kernel
theorem dX7_weightOf_48 : decode cX7_weightOf 48 = .ok (.iconst 3, 1) := by decide +kernel
theorem dX7_weightOf_49 : decode cX7_weightOf 49 = .ok (.if_icmp .ne 7, 3) := by decide +kernel
theorem dX7_weightOf_52 : decode cX7_weightOf 52 = .ok (.iconst (-1), 1) := by decide +kernel
theorem dX7_weightOf_53 : decode cX7_weightOf 53 = .ok (.goto 4, 3) := by decide +kernel
theorem dX7_weightOf_56 : decode cX7_weightOf 56 = .ok (.iconst 0, 1) := by decide +kernel
theorem dX7_weightOf_57 : decode cX7_weightOf 57 = .ok (.istore 6, 2) := by decide +kernel
theorem dX7_weightOf_59 : decode cX7_weightOf 59 = .ok (.aload_n 0, 1) := by decide +kernel
theorem dX7_weightOf_60 : decode cX7_weightOf 60 = .ok (.iload_n 1, 1) := by decide +kernel
theorem dX7_weightOf_61 : decode cX7_weightOf 61 = .ok (.iload_n 2, 1) := by decide +kernel
theorem dX7_weightOf_62 : decode cX7_weightOf 62 = .ok (.iload_n 3, 1) := by decide +kernel
theorem dX7_weightOf_63 : decode cX7_weightOf 63 = .ok (.iload 5, 2) := by decide +kernel
theorem dX7_weightOf_65 : decode cX7_weightOf 65 = .ok (.iload 6, 2) := by decide +kernel
theorem dX7_weightOf_67 : decode cX7_weightOf 67 = .ok (.invokevirtual 39, 3) := by decide +kernel
theorem dX7_weightOf_70 : decode cX7_weightOf 70 = .ok (.i2l, 1) := by decide +kernel
theorem dX7_weightOf_71 : decode cX7_weightOf 71 = .ok (.bipush 9, 2) := by decide +kernel
theorem dX7_weightOf_73 : decode cX7_weightOf 73 = .ok (.invokestatic 43, 3) := by decide +kernel
theorem dX7_weightOf_76 : decode cX7_weightOf 76 = .ok (.ireturn, 1) := by decide +kernel
theorem dX7_worth_0 : decode cX7_worth 0 = .ok (.aload_n 0, 1) := by decide +kernel
theorem dX7_worth_1 : decode cX7_worth 1 = .ok (.iconst 0, 1) := by decide +kernel
theorem dX7_worth_2 : decode cX7_worth 2 = .ok (.putfield 47, 3) := by decide +kernel
theorem dX7_worth_5 : decode cX7_worth 5 = .ok (.iload_n 1, 1) := by decide +kernel
theorem dX7_worth_6 : decode cX7_worth 6 = .ok (.ifCond .lt 23, 3) := by decide +kernel
theorem dX7_worth_9 : decode cX7_worth 9 = .ok (.iload_n 1, 1) := by decide +kernel
theorem dX7_worth_10 : decode cX7_worth 10 = .ok (.bipush 6, 2) := by decide +kernel
theorem dX7_worth_12 : decode cX7_worth 12 = .ok (.if_icmp .ge 17, 3) := by decide +kernel
theorem dX7_worth_15 : decode cX7_worth 15 = .ok (.aload_n 0, 1) := by decide +kernel
theorem dX7_worth_16 : decode cX7_worth 16 = .ok (.getfield 17, 3) := by decide +kernel
theorem dX7_worth_19 : decode cX7_worth 19 = .ok (.iload_n 1, 1) := by decide +kernel
theorem dX7_worth_20 : decode cX7_worth 20 = .ok (.iaload, 1) := by decide +kernel
theorem dX7_worth_21 : decode cX7_worth 21 = .ok (.bipush 120, 2) := by decide +kernel
theorem dX7_worth_23 : decode cX7_worth 23 = .ok (.invokestatic 32, 3) := by decide +kernel
theorem dX7_worth_26 : decode cX7_worth 26 = .ok (.goto 4, 3) := by decide +kernel
theorem dX7_worth_29 : decode cX7_worth 29 = .ok (.iconst 0, 1) := by decide +kernel
theorem dX7_worth_30 : decode cX7_worth 30 = .ok (.istore 6, 2) := by decide +kernel
theorem dX7_worth_32 : decode cX7_worth 32 = .ok (.iconst 0, 1) := by decide +kernel
theorem dX7_worth_33 : decode cX7_worth 33 = .ok (.istore 7, 2) := by decide +kernel
theorem dX7_worth_35 : decode cX7_worth 35 = .ok (.iload 7, 2) := by decide +kernel
theorem dX7_worth_37 : decode cX7_worth 37 = .ok (.iload 6, 2) := by decide +kernel
theorem dX7_worth_39 : decode cX7_worth 39 = .ok (.if_icmp .ge 144, 3) := by decide +kernel
theorem dX7_worth_42 : decode cX7_worth 42 = .ok (.aload_n 0, 1) := by decide +kernel
theorem dX7_worth_43 : decode cX7_worth 43 = .ok (.getfield 13, 3) := by decide +kernel
theorem dX7_worth_46 : decode cX7_worth 46 = .ok (.iload_n 1, 1) := by decide +kernel
theorem dX7_worth_47 : decode cX7_worth 47 = .ok (.bipush 120, 2) := by decide +kernel
theorem dX7_worth_49 : decode cX7_worth 49 = .ok (.imul, 1) := by decide +kernel
theorem dX7_worth_50 : decode cX7_worth 50 = .ok (.iload 7, 2) := by decide +kernel
theorem dX7_worth_52 : decode cX7_worth 52 = .ok (.iadd, 1) := by decide +kernel
theorem dX7_worth_53 : decode cX7_worth 53 = .ok (.iaload, 1) := by decide +kernel
theorem dX7_worth_54 : decode cX7_worth 54 = .ok (.istore 8, 2) := by decide +kernel
theorem dX7_worth_56 : decode cX7_worth 56 = .ok (.iload 8, 2) := by decide +kernel
theorem dX7_worth_58 : decode cX7_worth 58 = .ok (.ineg, 1) := by decide +kernel
theorem dX7_worth_59 : decode cX7_worth 59 = .ok (.lookupswitch 112 #[(63, 96), (97, 73), (98, 82), (107, 57), (110, 65), (121, 91)], 57) := by decide +kernel
theorem dX7_worth_116 : decode cX7_worth 116 = .ok (.aload_n 0, 1) := by decide +kernel
theorem dX7_worth_117 : decode cX7_worth 117 = .ok (.iload_n 2, 1) := by decide +kernel
theorem dX7_worth_118 : decode cX7_worth 118 = .ok (.invokevirtual 50, 3) := by decide +kernel
theorem dX7_worth_121 : decode cX7_worth 121 = .ok (.goto 56, 3) := by decide +kernel
theorem dX7_worth_124 : decode cX7_worth 124 = .ok (.aload_n 0, 1) := by decide +kernel
theorem dX7_worth_125 : decode cX7_worth 125 = .ok (.iload_n 3, 1) := by decide +kernel
theorem dX7_worth_126 : decode cX7_worth 126 = .ok (.invokevirtual 50, 3) := by decide +kernel
theorem dX7_worth_129 : decode cX7_worth 129 = .ok (.goto 48, 3) := by decide +kernel
theorem dX7_worth_132 : decode cX7_worth 132 = .ok (.aload_n 0, 1) := by decide +kernel
theorem dX7_worth_133 : decode cX7_worth 133 = .ok (.iload 4, 2) := by decide +kernel
theorem dX7_worth_135 : decode cX7_worth 135 = .ok (.invokevirtual 50, 3) := by decide +kernel
theorem dX7_worth_138 : decode cX7_worth 138 = .ok (.goto 39, 3) := by decide +kernel
theorem dX7_worth_141 : decode cX7_worth 141 = .ok (.aload_n 0, 1) := by decide +kernel
theorem dX7_worth_142 : decode cX7_worth 142 = .ok (.iload 5, 2) := by decide +kernel
theorem dX7_worth_144 : decode cX7_worth 144 = .ok (.invokevirtual 50, 3) := by decide +kernel
theorem dX7_worth_147 : decode cX7_worth 147 = .ok (.goto 30, 3) := by decide +kernel
theorem dX7_worth_150 : decode cX7_worth 150 = .ok (.aload_n 0, 1) := by decide +kernel
theorem dX7_worth_151 : decode cX7_worth 151 = .ok (.invokevirtual 54, 3) := by decide +kernel
theorem dX7_worth_154 : decode cX7_worth 154 = .ok (.ireturn, 1) := by decide +kernel
theorem dX7_worth_155 : decode cX7_worth 155 = .ok (.aload_n 0, 1) := by decide +kernel
theorem dX7_worth_156 : decode cX7_worth 156 = .ok (.invokevirtual 54, 3) := by decide +kernel
theorem dX7_worth_159 : decode cX7_worth 159 = .ok (.istore 9, 2) := by decide +kernel
theorem dX7_worth_161 : decode cX7_worth 161 = .ok (.aload_n 0, 1) := by decide +kernel
theorem dX7_worth_162 : decode cX7_worth 162 = .ok (.invokevirtual 54, 3) := by decide +kernel
theorem dX7_worth_165 : decode cX7_worth 165 = .ok (.ifCond .eq 12, 3) := by decide +kernel
theorem dX7_worth_168 : decode cX7_worth 168 = .ok (.iload 9, 2) := by decide +kernel
theorem dX7_worth_170 : decode cX7_worth 170 = .ok (.ireturn, 1) := by decide +kernel
theorem dX7_worth_171 : decode cX7_worth 171 = .ok (.aload_n 0, 1) := by decide +kernel
theorem dX7_worth_172 : decode cX7_worth 172 = .ok (.iload 8, 2) := by decide +kernel
theorem dX7_worth_174 : decode cX7_worth 174 = .ok (.invokevirtual 58, 3) := by decide +kernel
theorem dX7_worth_177 : decode cX7_worth 177 = .ok (.iinc 7 1, 3) := by decide +kernel
theorem dX7_worth_180 : decode cX7_worth 180 = .ok (.goto (-145), 3) := by decide +kernel
theorem dX7_worth_183 : decode cX7_worth 183 = .ok (.iconst 0, 1) := by decide +kernel
theorem dX7_worth_184 : decode cX7_worth 184 = .ok (.ireturn, 1) := by decide +kernel
theorem dX7_doStep_0 : decode cX7_doStep 0 = .ok (.iload_n 1, 1) := by decide +kernel
theorem dX7_doStep_1 : decode cX7_doStep 1 = .ok (.ifCond .lt 9, 3) := by decide +kernel
theorem dX7_doStep_4 : decode cX7_doStep 4 = .ok (.aload_n 0, 1) := by decide +kernel
theorem dX7_doStep_5 : decode cX7_doStep 5 = .ok (.iload_n 1, 1) := by decide +kernel
theorem dX7_doStep_6 : decode cX7_doStep 6 = .ok (.invokevirtual 50, 3) := by decide +kernel
theorem dX7_doStep_9 : decode cX7_doStep 9 = .ok (.return_, 1) := by decide +kernel
theorem dX7_doStep_10 : decode cX7_doStep 10 = .ok (.aload_n 0, 1) := by decide +kernel
theorem dX7_doStep_11 : decode cX7_doStep 11 = .ok (.invokevirtual 54, 3) := by decide +kernel
theorem dX7_doStep_14 : decode cX7_doStep 14 = .ok (.istore_n 2, 1) := by decide +kernel
theorem dX7_doStep_15 : decode cX7_doStep 15 = .ok (.iload_n 1, 1) := by decide +kernel
theorem dX7_doStep_16 : decode cX7_doStep 16 = .ok (.bipush (-33), 2) := by decide +kernel
theorem dX7_doStep_18 : decode cX7_doStep 18 = .ok (.if_icmp .ne 17, 3) := by decide +kernel
theorem dX7_doStep_21 : decode cX7_doStep 21 = .ok (.aload_n 0, 1) := by decide +kernel
theorem dX7_doStep_22 : decode cX7_doStep 22 = .ok (.iload_n 2, 1) := by decide +kernel
theorem dX7_doStep_23 : decode cX7_doStep 23 = .ok (.ifCond .ne 7, 3) := by decide +kernel
theorem dX7_doStep_26 : decode cX7_doStep 26 = .ok (.iconst 1, 1) := by decide +kernel
theorem dX7_doStep_27 : decode cX7_doStep 27 = .ok (.goto 4, 3) := by decide +kernel
theorem dX7_doStep_30 : decode cX7_doStep 30 = .ok (.iconst 0, 1) := by decide +kernel
theorem dX7_doStep_31 : decode cX7_doStep 31 = .ok (.invokevirtual 50, 3) := by decide +kernel
theorem dX7_doStep_34 : decode cX7_doStep 34 = .ok (.return_, 1) := by decide +kernel
theorem dX7_doStep_35 : decode cX7_doStep 35 = .ok (.aload_n 0, 1) := by decide +kernel
theorem dX7_doStep_36 : decode cX7_doStep 36 = .ok (.iload_n 1, 1) := by decide +kernel
theorem dX7_doStep_37 : decode cX7_doStep 37 = .ok (.ineg, 1) := by decide +kernel
theorem dX7_doStep_38 : decode cX7_doStep 38 = .ok (.aload_n 0, 1) := by decide +kernel
theorem dX7_doStep_39 : decode cX7_doStep 39 = .ok (.invokevirtual 54, 3) := by decide +kernel
theorem dX7_doStep_42 : decode cX7_doStep 42 = .ok (.iload_n 2, 1) := by decide +kernel
theorem dX7_doStep_43 : decode cX7_doStep 43 = .ok (.invokestatic 61, 3) := by decide +kernel
theorem dX7_doStep_46 : decode cX7_doStep 46 = .ok (.invokevirtual 50, 3) := by decide +kernel
theorem dX7_doStep_49 : decode cX7_doStep 49 = .ok (.return_, 1) := by decide +kernel
theorem dX7_joined_0 : decode cX7_joined 0 = .ok (.iload_n 0, 1) := by decide +kernel
theorem dX7_joined_1 : decode cX7_joined 1 = .ok (.tableswitch 204 38 62 #[200, 204, 204, 204, 137, 115, 204, 126, 204, 148, 204, 204, 204, 204, 204, 204, 204, 204, 204, 204, 204, 204, 178, 167, 189], 115) := by decide +kernel
theorem dX7_joined_116 : decode cX7_joined 116 = .ok (.iload_n 1, 1) := by decide +kernel
theorem dX7_joined_117 : decode cX7_joined 117 = .ok (.i2l, 1) := by decide +kernel
theorem dX7_joined_118 : decode cX7_joined 118 = .ok (.iload_n 2, 1) := by decide +kernel
theorem dX7_joined_119 : decode cX7_joined 119 = .ok (.i2l, 1) := by decide +kernel
theorem dX7_joined_120 : decode cX7_joined 120 = .ok (.ladd, 1) := by decide +kernel
theorem dX7_joined_121 : decode cX7_joined 121 = .ok (.ldc 65, 2) := by decide +kernel
theorem dX7_joined_123 : decode cX7_joined 123 = .ok (.invokestatic 43, 3) := by decide +kernel
theorem dX7_joined_126 : decode cX7_joined 126 = .ok (.ireturn, 1) := by decide +kernel
theorem dX7_joined_127 : decode cX7_joined 127 = .ok (.iload_n 1, 1) := by decide +kernel
theorem dX7_joined_128 : decode cX7_joined 128 = .ok (.i2l, 1) := by decide +kernel
theorem dX7_joined_129 : decode cX7_joined 129 = .ok (.iload_n 2, 1) := by decide +kernel
theorem dX7_joined_130 : decode cX7_joined 130 = .ok (.i2l, 1) := by decide +kernel
theorem dX7_joined_131 : decode cX7_joined 131 = .ok (.lsub, 1) := by decide +kernel
theorem dX7_joined_132 : decode cX7_joined 132 = .ok (.ldc 65, 2) := by decide +kernel
theorem dX7_joined_134 : decode cX7_joined 134 = .ok (.invokestatic 43, 3) := by decide +kernel
theorem dX7_joined_137 : decode cX7_joined 137 = .ok (.ireturn, 1) := by decide +kernel
theorem dX7_joined_138 : decode cX7_joined 138 = .ok (.iload_n 1, 1) := by decide +kernel
theorem dX7_joined_139 : decode cX7_joined 139 = .ok (.i2l, 1) := by decide +kernel
theorem dX7_joined_140 : decode cX7_joined 140 = .ok (.iload_n 2, 1) := by decide +kernel
theorem dX7_joined_141 : decode cX7_joined 141 = .ok (.i2l, 1) := by decide +kernel
theorem dX7_joined_142 : decode cX7_joined 142 = .ok (.lmul, 1) := by decide +kernel
theorem dX7_joined_143 : decode cX7_joined 143 = .ok (.ldc 65, 2) := by decide +kernel
theorem dX7_joined_145 : decode cX7_joined 145 = .ok (.invokestatic 43, 3) := by decide +kernel
theorem dX7_joined_148 : decode cX7_joined 148 = .ok (.ireturn, 1) := by decide +kernel
theorem dX7_joined_149 : decode cX7_joined 149 = .ok (.iload_n 2, 1) := by decide +kernel
theorem dX7_joined_150 : decode cX7_joined 150 = .ok (.ifCond .ne 7, 3) := by decide +kernel
theorem dX7_joined_153 : decode cX7_joined 153 = .ok (.iconst 0, 1) := by decide +kernel
theorem dX7_joined_154 : decode cX7_joined 154 = .ok (.goto 13, 3) := by decide +kernel
theorem dX7_joined_157 : decode cX7_joined 157 = .ok (.iload_n 1, 1) := by decide +kernel
theorem dX7_joined_158 : decode cX7_joined 158 = .ok (.i2l, 1) := by decide +kernel
theorem dX7_joined_159 : decode cX7_joined 159 = .ok (.iload_n 2, 1) := by decide +kernel
theorem dX7_joined_160 : decode cX7_joined 160 = .ok (.i2l, 1) := by decide +kernel
theorem dX7_joined_161 : decode cX7_joined 161 = .ok (.ldiv, 1) := by decide +kernel
theorem dX7_joined_162 : decode cX7_joined 162 = .ok (.ldc 65, 2) := by decide +kernel
theorem dX7_joined_164 : decode cX7_joined 164 = .ok (.invokestatic 43, 3) := by decide +kernel
theorem dX7_joined_167 : decode cX7_joined 167 = .ok (.ireturn, 1) := by decide +kernel
theorem dX7_joined_168 : decode cX7_joined 168 = .ok (.iload_n 1, 1) := by decide +kernel
theorem dX7_joined_169 : decode cX7_joined 169 = .ok (.iload_n 2, 1) := by decide +kernel
theorem dX7_joined_170 : decode cX7_joined 170 = .ok (.if_icmp .ne 7, 3) := by decide +kernel
theorem dX7_joined_173 : decode cX7_joined 173 = .ok (.iconst 1, 1) := by decide +kernel
theorem dX7_joined_174 : decode cX7_joined 174 = .ok (.goto 4, 3) := by decide +kernel
theorem dX7_joined_177 : decode cX7_joined 177 = .ok (.iconst 0, 1) := by decide +kernel
theorem dX7_joined_178 : decode cX7_joined 178 = .ok (.ireturn, 1) := by decide +kernel
theorem dX7_joined_179 : decode cX7_joined 179 = .ok (.iload_n 1, 1) := by decide +kernel
theorem dX7_joined_180 : decode cX7_joined 180 = .ok (.iload_n 2, 1) := by decide +kernel
theorem dX7_joined_181 : decode cX7_joined 181 = .ok (.if_icmp .ge 7, 3) := by decide +kernel
theorem dX7_joined_184 : decode cX7_joined 184 = .ok (.iconst 1, 1) := by decide +kernel
theorem dX7_joined_185 : decode cX7_joined 185 = .ok (.goto 4, 3) := by decide +kernel
theorem dX7_joined_188 : decode cX7_joined 188 = .ok (.iconst 0, 1) := by decide +kernel
theorem dX7_joined_189 : decode cX7_joined 189 = .ok (.ireturn, 1) := by decide +kernel
theorem dX7_joined_190 : decode cX7_joined 190 = .ok (.iload_n 1, 1) := by decide +kernel
theorem dX7_joined_191 : decode cX7_joined 191 = .ok (.iload_n 2, 1) := by decide +kernel
theorem dX7_joined_192 : decode cX7_joined 192 = .ok (.if_icmp .le 7, 3) := by decide +kernel
theorem dX7_joined_195 : decode cX7_joined 195 = .ok (.iconst 1, 1) := by decide +kernel
theorem dX7_joined_196 : decode cX7_joined 196 = .ok (.goto 4, 3) := by decide +kernel
theorem dX7_joined_199 : decode cX7_joined 199 = .ok (.iconst 0, 1) := by decide +kernel
theorem dX7_joined_200 : decode cX7_joined 200 = .ok (.ireturn, 1) := by decide +kernel
theorem dX7_joined_201 : decode cX7_joined 201 = .ok (.iload_n 1, 1) := by decide +kernel
theorem dX7_joined_202 : decode cX7_joined 202 = .ok (.iload_n 2, 1) := by decide +kernel
theorem dX7_joined_203 : decode cX7_joined 203 = .ok (.iand, 1) := by decide +kernel
theorem dX7_joined_204 : decode cX7_joined 204 = .ok (.ireturn, 1) := by decide +kernel
theorem dX7_joined_205 : decode cX7_joined 205 = .ok (.iload_n 1, 1) := by decide +kernel
theorem dX7_joined_206 : decode cX7_joined 206 = .ok (.iload_n 2, 1) := by decide +kernel
theorem dX7_joined_207 : decode cX7_joined 207 = .ok (.ior, 1) := by decide +kernel
theorem dX7_joined_208 : decode cX7_joined 208 = .ok (.ireturn, 1) := by decide +kernel
theorem dX7_held_0 : decode cX7_held 0 = .ok (.iload_n 2, 1) := by decide +kernel
theorem dX7_held_1 : decode cX7_held 1 = .ok (.ineg, 1) := by decide +kernel
theorem dX7_held_2 : decode cX7_held 2 = .ok (.i2l, 1) := by decide +kernel
theorem dX7_held_3 : decode cX7_held 3 = .ok (.iload_n 2, 1) := by decide +kernel
theorem dX7_held_4 : decode cX7_held 4 = .ok (.i2l, 1) := by decide +kernel
theorem dX7_held_5 : decode cX7_held 5 = .ok (.lload_n 0, 1) := by decide +kernel
theorem dX7_held_6 : decode cX7_held 6 = .ok (.invokestatic 66, 3) := by decide +kernel
theorem dX7_held_9 : decode cX7_held 9 = .ok (.invokestatic 69, 3) := by decide +kernel
theorem dX7_held_12 : decode cX7_held 12 = .ok (.l2i, 1) := by decide +kernel
theorem dX7_held_13 : decode cX7_held 13 = .ok (.ireturn, 1) := by decide +kernel
theorem dX7_push_0 : decode cX7_push 0 = .ok (.aload_n 0, 1) := by decide +kernel
theorem dX7_push_1 : decode cX7_push 1 = .ok (.getfield 47, 3) := by decide +kernel
theorem dX7_push_4 : decode cX7_push 4 = .ok (.aload_n 0, 1) := by decide +kernel
theorem dX7_push_5 : decode cX7_push 5 = .ok (.getfield 20, 3) := by decide +kernel
theorem dX7_push_8 : decode cX7_push 8 = .ok (.arraylength, 1) := by decide +kernel
theorem dX7_push_9 : decode cX7_push 9 = .ok (.if_icmp .ge 23, 3) := by decide +kernel
theorem dX7_push_12 : decode cX7_push 12 = .ok (.aload_n 0, 1) := by decide +kernel
theorem dX7_push_13 : decode cX7_push 13 = .ok (.getfield 20, 3) := by decide +kernel
theorem dX7_push_16 : decode cX7_push 16 = .ok (.aload_n 0, 1) := by decide +kernel
theorem dX7_push_17 : decode cX7_push 17 = .ok (.getfield 47, 3) := by decide +kernel
theorem dX7_push_20 : decode cX7_push 20 = .ok (.iload_n 1, 1) := by decide +kernel
theorem dX7_push_21 : decode cX7_push 21 = .ok (.iastore, 1) := by decide +kernel
theorem dX7_push_22 : decode cX7_push 22 = .ok (.aload_n 0, 1) := by decide +kernel
theorem dX7_push_23 : decode cX7_push 23 = .ok (.dup, 1) := by decide +kernel
theorem dX7_push_24 : decode cX7_push 24 = .ok (.getfield 47, 3) := by decide +kernel
theorem dX7_push_27 : decode cX7_push 27 = .ok (.iconst 1, 1) := by decide +kernel
theorem dX7_push_28 : decode cX7_push 28 = .ok (.iadd, 1) := by decide +kernel
theorem dX7_push_29 : decode cX7_push 29 = .ok (.putfield 47, 3) := by decide +kernel
theorem dX7_push_32 : decode cX7_push 32 = .ok (.return_, 1) := by decide +kernel
theorem dX7_pop_0 : decode cX7_pop 0 = .ok (.aload_n 0, 1) := by decide +kernel
theorem dX7_pop_1 : decode cX7_pop 1 = .ok (.getfield 47, 3) := by decide +kernel
theorem dX7_pop_4 : decode cX7_pop 4 = .ok (.ifCond .gt 5, 3) := by decide +kernel
theorem dX7_pop_7 : decode cX7_pop 7 = .ok (.iconst 0, 1) := by decide +kernel
theorem dX7_pop_8 : decode cX7_pop 8 = .ok (.ireturn, 1) := by decide +kernel
theorem dX7_pop_9 : decode cX7_pop 9 = .ok (.aload_n 0, 1) := by decide +kernel
theorem dX7_pop_10 : decode cX7_pop 10 = .ok (.dup, 1) := by decide +kernel
theorem dX7_pop_11 : decode cX7_pop 11 = .ok (.getfield 47, 3) := by decide +kernel
theorem dX7_pop_14 : decode cX7_pop 14 = .ok (.iconst 1, 1) := by decide +kernel
theorem dX7_pop_15 : decode cX7_pop 15 = .ok (.isub, 1) := by decide +kernel
theorem dX7_pop_16 : decode cX7_pop 16 = .ok (.putfield 47, 3) := by decide +kernel
theorem dX7_pop_19 : decode cX7_pop 19 = .ok (.aload_n 0, 1) := by decide +kernel
theorem dX7_pop_20 : decode cX7_pop 20 = .ok (.getfield 20, 3) := by decide +kernel
theorem dX7_pop_23 : decode cX7_pop 23 = .ok (.aload_n 0, 1) := by decide +kernel
theorem dX7_pop_24 : decode cX7_pop 24 = .ok (.getfield 47, 3) := by decide +kernel
theorem dX7_pop_27 : decode cX7_pop 27 = .ok (.iaload, 1) := by decide +kernel
theorem dX7_pop_28 : decode cX7_pop 28 = .ok (.ireturn, 1) := by decide +kernel
theorem dX8_init_0 : decode cX8_init 0 = .ok (.aload_n 0, 1) := by decide +kernel
theorem dX8_init_1 : decode cX8_init 1 = .ok (.invokespecial 3, 3) := by decide +kernel
theorem dX8_init_4 : decode cX8_init 4 = .ok (.aload_n 0, 1) := by decide +kernel
theorem dX8_init_5 : decode cX8_init 5 = .ok (.aload_n 1, 1) := by decide +kernel
theorem dX8_init_6 : decode cX8_init 6 = .ok (.putfield 9, 3) := by decide +kernel
theorem dX8_init_9 : decode cX8_init 9 = .ok (.aload_n 0, 1) := by decide +kernel
theorem dX8_init_10 : decode cX8_init 10 = .ok (.bipush 56, 2) := by decide +kernel
theorem dX8_init_12 : decode cX8_init 12 = .ok (.newarray .int, 2) := by decide +kernel
theorem dX8_init_14 : decode cX8_init 14 = .ok (.putfield 15, 3) := by decide +kernel
theorem dX8_init_17 : decode cX8_init 17 = .ok (.aload_n 0, 1) := by decide +kernel
theorem dX8_init_18 : decode cX8_init 18 = .ok (.bipush 7, 2) := by decide +kernel
theorem dX8_init_20 : decode cX8_init 20 = .ok (.newarray .int, 2) := by decide +kernel
theorem dX8_init_22 : decode cX8_init 22 = .ok (.putfield 18, 3) := by decide +kernel
theorem dX8_init_25 : decode cX8_init 25 = .ok (.aload_n 0, 1) := by decide +kernel
theorem dX8_init_26 : decode cX8_init 26 = .ok (.bipush 8, 2) := by decide +kernel
theorem dX8_init_28 : decode cX8_init 28 = .ok (.newarray .int, 2) := by decide +kernel
theorem dX8_init_30 : decode cX8_init 30 = .ok (.putfield 21, 3) := by decide +kernel
theorem dX8_init_33 : decode cX8_init 33 = .ok (.aload_n 0, 1) := by decide +kernel
theorem dX8_init_34 : decode cX8_init 34 = .ok (.sipush 256, 3) := by decide +kernel
theorem dX8_init_37 : decode cX8_init 37 = .ok (.newarray .int, 2) := by decide +kernel
theorem dX8_init_39 : decode cX8_init 39 = .ok (.putfield 24, 3) := by decide +kernel
theorem dX8_init_42 : decode cX8_init 42 = .ok (.aload_n 0, 1) := by decide +kernel
theorem dX8_init_43 : decode cX8_init 43 = .ok (.sipush 155, 3) := by decide +kernel
theorem dX8_init_46 : decode cX8_init 46 = .ok (.newarray .long, 2) := by decide +kernel
theorem dX8_init_48 : decode cX8_init 48 = .ok (.putfield 27, 3) := by decide +kernel
theorem dX8_init_51 : decode cX8_init 51 = .ok (.aload_n 0, 1) := by decide +kernel
theorem dX8_init_52 : decode cX8_init 52 = .ok (.getfield 21, 3) := by decide +kernel
theorem dX8_init_55 : decode cX8_init 55 = .ok (.iconst (-1), 1) := by decide +kernel
theorem dX8_init_56 : decode cX8_init 56 = .ok (.invokestatic 31, 3) := by decide +kernel
theorem dX8_init_59 : decode cX8_init 59 = .ok (.return_, 1) := by decide +kernel
theorem dX8_has_0 : decode cX8_has 0 = .ok (.iload_n 1, 1) := by decide +kernel
theorem dX8_has_1 : decode cX8_has 1 = .ok (.ifCond .lt 15, 3) := by decide +kernel
theorem dX8_has_4 : decode cX8_has 4 = .ok (.iload_n 1, 1) := by decide +kernel
theorem dX8_has_5 : decode cX8_has 5 = .ok (.aload_n 0, 1) := by decide +kernel
theorem dX8_has_6 : decode cX8_has 6 = .ok (.getfield 37, 3) := by decide +kernel
theorem dX8_has_9 : decode cX8_has 9 = .ok (.if_icmp .ge 7, 3) := by decide +kernel
theorem dX8_has_12 : decode cX8_has 12 = .ok (.iconst 1, 1) := by decide +kernel
theorem dX8_has_13 : decode cX8_has 13 = .ok (.goto 4, 3) := by decide +kernel
theorem dX8_has_16 : decode cX8_has 16 = .ok (.iconst 0, 1) := by decide +kernel
theorem dX8_has_17 : decode cX8_has 17 = .ok (.ireturn, 1) := by decide +kernel
theorem dX8_lengthOf_0 : decode cX8_lengthOf 0 = .ok (.iload_n 1, 1) := by decide +kernel
theorem dX8_lengthOf_1 : decode cX8_lengthOf 1 = .ok (.ifCond .lt 21, 3) := by decide +kernel
theorem dX8_lengthOf_4 : decode cX8_lengthOf 4 = .ok (.iload_n 1, 1) := by decide +kernel
theorem dX8_lengthOf_5 : decode cX8_lengthOf 5 = .ok (.aload_n 0, 1) := by decide +kernel
theorem dX8_lengthOf_6 : decode cX8_lengthOf 6 = .ok (.getfield 18, 3) := by decide +kernel
theorem dX8_lengthOf_9 : decode cX8_lengthOf 9 = .ok (.arraylength, 1) := by decide +kernel
theorem dX8_lengthOf_10 : decode cX8_lengthOf 10 = .ok (.if_icmp .ge 12, 3) := by decide +kernel
theorem dX8_lengthOf_13 : decode cX8_lengthOf 13 = .ok (.aload_n 0, 1) := by decide +kernel
theorem dX8_lengthOf_14 : decode cX8_lengthOf 14 = .ok (.getfield 18, 3) := by decide +kernel
theorem dX8_lengthOf_17 : decode cX8_lengthOf 17 = .ok (.iload_n 1, 1) := by decide +kernel
theorem dX8_lengthOf_18 : decode cX8_lengthOf 18 = .ok (.iaload, 1) := by decide +kernel
theorem dX8_lengthOf_19 : decode cX8_lengthOf 19 = .ok (.goto 4, 3) := by decide +kernel
theorem dX8_lengthOf_22 : decode cX8_lengthOf 22 = .ok (.iconst 0, 1) := by decide +kernel
theorem dX8_lengthOf_23 : decode cX8_lengthOf 23 = .ok (.ireturn, 1) := by decide +kernel
theorem dX8_number_0 : decode cX8_number 0 = .ok (.aload_n 0, 1) := by decide +kernel
theorem dX8_number_1 : decode cX8_number 1 = .ok (.iload_n 1, 1) := by decide +kernel
theorem dX8_number_2 : decode cX8_number 2 = .ok (.invokevirtual 41, 3) := by decide +kernel
theorem dX8_number_5 : decode cX8_number 5 = .ok (.ifCond .eq 31, 3) := by decide +kernel
theorem dX8_number_8 : decode cX8_number 8 = .ok (.iload_n 2, 1) := by decide +kernel
theorem dX8_number_9 : decode cX8_number 9 = .ok (.ifCond .lt 27, 3) := by decide +kernel
theorem dX8_number_12 : decode cX8_number 12 = .ok (.iload_n 2, 1) := by decide +kernel
theorem dX8_number_13 : decode cX8_number 13 = .ok (.aload_n 0, 1) := by decide +kernel
theorem dX8_number_14 : decode cX8_number 14 = .ok (.getfield 18, 3) := by decide +kernel
theorem dX8_number_17 : decode cX8_number 17 = .ok (.iload_n 1, 1) := by decide +kernel
theorem dX8_number_18 : decode cX8_number 18 = .ok (.iaload, 1) := by decide +kernel
theorem dX8_number_19 : decode cX8_number 19 = .ok (.if_icmp .ge 17, 3) := by decide +kernel
theorem dX8_number_22 : decode cX8_number 22 = .ok (.aload_n 0, 1) := by decide +kernel
theorem dX8_number_23 : decode cX8_number 23 = .ok (.getfield 15, 3) := by decide +kernel
theorem dX8_number_26 : decode cX8_number 26 = .ok (.iload_n 1, 1) := by decide +kernel
theorem dX8_number_27 : decode cX8_number 27 = .ok (.bipush 8, 2) := by decide +kernel
theorem dX8_number_29 : decode cX8_number 29 = .ok (.imul, 1) := by decide +kernel
theorem dX8_number_30 : decode cX8_number 30 = .ok (.iload_n 2, 1) := by decide +kernel
theorem dX8_number_31 : decode cX8_number 31 = .ok (.iadd, 1) := by decide +kernel
theorem dX8_number_32 : decode cX8_number 32 = .ok (.iaload, 1) := by decide +kernel
theorem dX8_number_33 : decode cX8_number 33 = .ok (.goto 4, 3) := by decide +kernel
theorem dX8_number_36 : decode cX8_number 36 = .ok (.iconst (-1), 1) := by decide +kernel
theorem dX8_number_37 : decode cX8_number 37 = .ok (.ireturn, 1) := by decide +kernel
theorem dX8_readFrom_0 : decode cX8_readFrom 0 = .ok (.aload_n 1, 1) := by decide +kernel
theorem dX8_readFrom_1 : decode cX8_readFrom 1 = .ok (.invokevirtual 45, 3) := by decide +kernel
theorem dX8_readFrom_4 : decode cX8_readFrom 4 = .ok (.iconst 0, 1) := by decide +kernel
theorem dX8_readFrom_5 : decode cX8_readFrom 5 = .ok (.istore_n 2, 1) := by decide +kernel
theorem dX8_readFrom_6 : decode cX8_readFrom 6 = .ok (.iload_n 2, 1) := by decide +kernel
theorem dX8_readFrom_7 : decode cX8_readFrom 7 = .ok (.bipush 8, 2) := by decide +kernel
theorem dX8_readFrom_9 : decode cX8_readFrom 9 = .ok (.if_icmp .ge 102, 3) := by decide +kernel
theorem dX8_readFrom_12 : decode cX8_readFrom 12 = .ok (.aload_n 1, 1) := by decide +kernel
theorem dX8_readFrom_13 : decode cX8_readFrom 13 = .ok (.invokevirtual 50, 3) := by decide +kernel
theorem dX8_readFrom_16 : decode cX8_readFrom 16 = .ok (.pop, 1) := by decide +kernel
theorem dX8_readFrom_17 : decode cX8_readFrom 17 = .ok (.aload_n 1, 1) := by decide +kernel
theorem dX8_readFrom_18 : decode cX8_readFrom 18 = .ok (.invokevirtual 54, 3) := by decide +kernel
theorem dX8_readFrom_21 : decode cX8_readFrom 21 = .ok (.istore_n 3, 1) := by decide +kernel
theorem dX8_readFrom_22 : decode cX8_readFrom 22 = .ok (.iload_n 3, 1) := by decide +kernel
theorem dX8_readFrom_23 : decode cX8_readFrom 23 = .ok (.iconst (-1), 1) := by decide +kernel
theorem dX8_readFrom_24 : decode cX8_readFrom 24 = .ok (.if_icmp .ne 8, 3) := by decide +kernel
theorem dX8_readFrom_27 : decode cX8_readFrom 27 = .ok (.aload_n 1, 1) := by decide +kernel
theorem dX8_readFrom_28 : decode cX8_readFrom 28 = .ok (.getfield 57, 3) := by decide +kernel
theorem dX8_readFrom_31 : decode cX8_readFrom 31 = .ok (.ireturn, 1) := by decide +kernel
theorem dX8_readFrom_32 : decode cX8_readFrom 32 = .ok (.aload_n 1, 1) := by decide +kernel
theorem dX8_readFrom_33 : decode cX8_readFrom 33 = .ok (.invokevirtual 60, 3) := by decide +kernel
theorem dX8_readFrom_36 : decode cX8_readFrom 36 = .ok (.aload_n 1, 1) := by decide +kernel
theorem dX8_readFrom_37 : decode cX8_readFrom 37 = .ok (.invokevirtual 54, 3) := by decide +kernel
theorem dX8_readFrom_40 : decode cX8_readFrom 40 = .ok (.iconst (-1), 1) := by decide +kernel
theorem dX8_readFrom_41 : decode cX8_readFrom 41 = .ok (.if_icmp .eq 17, 3) := by decide +kernel
theorem dX8_readFrom_44 : decode cX8_readFrom 44 = .ok (.iload_n 3, 1) := by decide +kernel
theorem dX8_readFrom_45 : decode cX8_readFrom 45 = .ok (.bipush 10, 2) := by decide +kernel
theorem dX8_readFrom_47 : decode cX8_readFrom 47 = .ok (.imul, 1) := by decide +kernel
theorem dX8_readFrom_48 : decode cX8_readFrom 48 = .ok (.aload_n 1, 1) := by decide +kernel
theorem dX8_readFrom_49 : decode cX8_readFrom 49 = .ok (.invokevirtual 54, 3) := by decide +kernel
theorem dX8_readFrom_52 : decode cX8_readFrom 52 = .ok (.iadd, 1) := by decide +kernel
theorem dX8_readFrom_53 : decode cX8_readFrom 53 = .ok (.istore_n 3, 1) := by decide +kernel
theorem dX8_readFrom_54 : decode cX8_readFrom 54 = .ok (.aload_n 1, 1) := by decide +kernel
theorem dX8_readFrom_55 : decode cX8_readFrom 55 = .ok (.invokevirtual 60, 3) := by decide +kernel
theorem dX8_readFrom_58 : decode cX8_readFrom 58 = .ok (.iload_n 3, 1) := by decide +kernel
theorem dX8_readFrom_59 : decode cX8_readFrom 59 = .ok (.iconst 2, 1) := by decide +kernel
theorem dX8_readFrom_60 : decode cX8_readFrom 60 = .ok (.if_icmp .ge 10, 3) := by decide +kernel
theorem dX8_readFrom_63 : decode cX8_readFrom 63 = .ok (.aload_n 1, 1) := by decide +kernel
theorem dX8_readFrom_64 : decode cX8_readFrom 64 = .ok (.getfield 57, 3) := by decide +kernel
theorem dX8_readFrom_67 : decode cX8_readFrom 67 = .ok (.iconst 1, 1) := by decide +kernel
theorem dX8_readFrom_68 : decode cX8_readFrom 68 = .ok (.isub, 1) := by decide +kernel
theorem dX8_readFrom_69 : decode cX8_readFrom 69 = .ok (.ireturn, 1) := by decide +kernel
theorem dX8_readFrom_70 : decode cX8_readFrom 70 = .ok (.aload_n 0, 1) := by decide +kernel
theorem dX8_readFrom_71 : decode cX8_readFrom 71 = .ok (.iload_n 2, 1) := by decide +kernel
theorem dX8_readFrom_72 : decode cX8_readFrom 72 = .ok (.iload_n 3, 1) := by decide +kernel
theorem dX8_readFrom_73 : decode cX8_readFrom 73 = .ok (.invokevirtual 63, 3) := by decide +kernel
theorem dX8_readFrom_76 : decode cX8_readFrom 76 = .ok (.aload_n 1, 1) := by decide +kernel
theorem dX8_readFrom_77 : decode cX8_readFrom 77 = .ok (.invokevirtual 50, 3) := by decide +kernel
theorem dX8_readFrom_80 : decode cX8_readFrom 80 = .ok (.ifCond .ne 5, 3) := by decide +kernel
theorem dX8_readFrom_83 : decode cX8_readFrom 83 = .ok (.iconst (-1), 1) := by decide +kernel
theorem dX8_readFrom_84 : decode cX8_readFrom 84 = .ok (.ireturn, 1) := by decide +kernel
theorem dX8_readFrom_85 : decode cX8_readFrom 85 = .ok (.iload_n 2, 1) := by decide +kernel
theorem dX8_readFrom_86 : decode cX8_readFrom 86 = .ok (.bipush 7, 2) := by decide +kernel
theorem dX8_readFrom_88 : decode cX8_readFrom 88 = .ok (.if_icmp .eq 12, 3) := by decide +kernel
theorem dX8_readFrom_91 : decode cX8_readFrom 91 = .ok (.aload_n 1, 1) := by decide +kernel
theorem dX8_readFrom_92 : decode cX8_readFrom 92 = .ok (.bipush 44, 2) := by decide +kernel
theorem dX8_readFrom_94 : decode cX8_readFrom 94 = .ok (.invokevirtual 67, 3) := by decide +kernel
theorem dX8_readFrom_97 : decode cX8_readFrom 97 = .ok (.ifCond .ne 8, 3) := by decide +kernel
theorem dX8_readFrom_100 : decode cX8_readFrom 100 = .ok (.aload_n 1, 1) := by decide +kernel
theorem dX8_readFrom_101 : decode cX8_readFrom 101 = .ok (.getfield 57, 3) := by decide +kernel
theorem dX8_readFrom_104 : decode cX8_readFrom 104 = .ok (.ireturn, 1) := by decide +kernel
theorem dX8_readFrom_105 : decode cX8_readFrom 105 = .ok (.iinc 2 1, 3) := by decide +kernel
theorem dX8_readFrom_108 : decode cX8_readFrom 108 = .ok (.goto (-102), 3) := by decide +kernel
theorem dX8_readFrom_111 : decode cX8_readFrom 111 = .ok (.aload_n 1, 1) := by decide +kernel
theorem dX8_readFrom_112 : decode cX8_readFrom 112 = .ok (.getfield 57, 3) := by decide +kernel
theorem dX8_readFrom_115 : decode cX8_readFrom 115 = .ok (.ireturn, 1) := by decide +kernel
theorem dX8_putLast_0 : decode cX8_putLast 0 = .ok (.iload_n 1, 1) := by decide +kernel
theorem dX8_putLast_1 : decode cX8_putLast 1 = .ok (.ifCond .lt 48, 3) := by decide +kernel
theorem dX8_putLast_4 : decode cX8_putLast 4 = .ok (.iload_n 1, 1) := by decide +kernel
theorem dX8_putLast_5 : decode cX8_putLast 5 = .ok (.bipush 8, 2) := by decide +kernel
theorem dX8_putLast_7 : decode cX8_putLast 7 = .ok (.if_icmp .ge 42, 3) := by decide +kernel
theorem dX8_putLast_10 : decode cX8_putLast 10 = .ok (.aload_n 0, 1) := by decide +kernel
theorem dX8_putLast_11 : decode cX8_putLast 11 = .ok (.getfield 37, 3) := by decide +kernel
theorem dX8_putLast_14 : decode cX8_putLast 14 = .ok (.aload_n 0, 1) := by decide +kernel
theorem dX8_putLast_15 : decode cX8_putLast 15 = .ok (.getfield 18, 3) := by decide +kernel
theorem dX8_putLast_18 : decode cX8_putLast 18 = .ok (.arraylength, 1) := by decide +kernel
theorem dX8_putLast_19 : decode cX8_putLast 19 = .ok (.if_icmp .ge 30, 3) := by decide +kernel
theorem dX8_putLast_22 : decode cX8_putLast 22 = .ok (.aload_n 0, 1) := by decide +kernel
theorem dX8_putLast_23 : decode cX8_putLast 23 = .ok (.getfield 15, 3) := by decide +kernel
theorem dX8_putLast_26 : decode cX8_putLast 26 = .ok (.aload_n 0, 1) := by decide +kernel
theorem dX8_putLast_27 : decode cX8_putLast 27 = .ok (.getfield 37, 3) := by decide +kernel
theorem dX8_putLast_30 : decode cX8_putLast 30 = .ok (.bipush 8, 2) := by decide +kernel
theorem dX8_putLast_32 : decode cX8_putLast 32 = .ok (.imul, 1) := by decide +kernel
theorem dX8_putLast_33 : decode cX8_putLast 33 = .ok (.iload_n 1, 1) := by decide +kernel
theorem dX8_putLast_34 : decode cX8_putLast 34 = .ok (.iadd, 1) := by decide +kernel
theorem dX8_putLast_35 : decode cX8_putLast 35 = .ok (.iload_n 2, 1) := by decide +kernel
theorem dX8_putLast_36 : decode cX8_putLast 36 = .ok (.iastore, 1) := by decide +kernel
theorem dX8_putLast_37 : decode cX8_putLast 37 = .ok (.aload_n 0, 1) := by decide +kernel
theorem dX8_putLast_38 : decode cX8_putLast 38 = .ok (.getfield 18, 3) := by decide +kernel
theorem dX8_putLast_41 : decode cX8_putLast 41 = .ok (.aload_n 0, 1) := by decide +kernel
theorem dX8_putLast_42 : decode cX8_putLast 42 = .ok (.getfield 37, 3) := by decide +kernel
theorem dX8_putLast_45 : decode cX8_putLast 45 = .ok (.iload_n 1, 1) := by decide +kernel
theorem dX8_putLast_46 : decode cX8_putLast 46 = .ok (.iconst 1, 1) := by decide +kernel
theorem dX8_putLast_47 : decode cX8_putLast 47 = .ok (.iadd, 1) := by decide +kernel
theorem dX8_putLast_48 : decode cX8_putLast 48 = .ok (.iastore, 1) := by decide +kernel
theorem dX8_putLast_49 : decode cX8_putLast 49 = .ok (.return_, 1) := by decide +kernel
theorem dX8_keep_0 : decode cX8_keep 0 = .ok (.aload_n 0, 1) := by decide +kernel
theorem dX8_keep_1 : decode cX8_keep 1 = .ok (.getfield 37, 3) := by decide +kernel
theorem dX8_keep_4 : decode cX8_keep 4 = .ok (.bipush 6, 2) := by decide +kernel
theorem dX8_keep_6 : decode cX8_keep 6 = .ok (.if_icmp .lt 5, 3) := by decide +kernel
theorem dX8_keep_9 : decode cX8_keep 9 = .ok (.iconst (-1), 1) := by decide +kernel
theorem dX8_keep_10 : decode cX8_keep 10 = .ok (.ireturn, 1) := by decide +kernel
theorem dX8_keep_11 : decode cX8_keep 11 = .ok (.aload_n 0, 1) := by decide +kernel
theorem dX8_keep_12 : decode cX8_keep 12 = .ok (.dup, 1) := by decide +kernel
theorem dX8_keep_13 : decode cX8_keep 13 = .ok (.getfield 37, 3) := by decide +kernel
theorem dX8_keep_16 : decode cX8_keep 16 = .ok (.iconst 1, 1) := by decide +kernel
theorem dX8_keep_17 : decode cX8_keep 17 = .ok (.iadd, 1) := by decide +kernel
theorem dX8_keep_18 : decode cX8_keep 18 = .ok (.putfield 37, 3) := by decide +kernel
theorem dX8_keep_21 : decode cX8_keep 21 = .ok (.aload_n 0, 1) := by decide +kernel
theorem dX8_keep_22 : decode cX8_keep 22 = .ok (.getfield 37, 3) := by decide +kernel
theorem dX8_keep_25 : decode cX8_keep 25 = .ok (.iconst 1, 1) := by decide +kernel
theorem dX8_keep_26 : decode cX8_keep 26 = .ok (.isub, 1) := by decide +kernel
theorem dX8_keep_27 : decode cX8_keep 27 = .ok (.ireturn, 1) := by decide +kernel
theorem dX8_remainder_0 : decode cX8_remainder 0 = .ok (.iload_n 1, 1) := by decide +kernel
theorem dX8_remainder_1 : decode cX8_remainder 1 = .ok (.ifCond .le 9, 3) := by decide +kernel
theorem dX8_remainder_4 : decode cX8_remainder 4 = .ok (.iload_n 0, 1) := by decide +kernel
theorem dX8_remainder_5 : decode cX8_remainder 5 = .ok (.iload_n 1, 1) := by decide +kernel
theorem dX8_remainder_6 : decode cX8_remainder 6 = .ok (.irem, 1) := by decide +kernel
theorem dX8_remainder_7 : decode cX8_remainder 7 = .ok (.goto 4, 3) := by decide +kernel
theorem dX8_remainder_10 : decode cX8_remainder 10 = .ok (.iconst 0, 1) := by decide +kernel
theorem dX8_remainder_11 : decode cX8_remainder 11 = .ok (.ireturn, 1) := by decide +kernel
theorem dX8_isSeenBy_0 : decode cX8_isSeenBy 0 = .ok (.iload_n 2, 1) := by decide +kernel
theorem dX8_isSeenBy_1 : decode cX8_isSeenBy 1 = .ok (.iload_n 1, 1) := by decide +kernel
theorem dX8_isSeenBy_2 : decode cX8_isSeenBy 2 = .ok (.invokestatic 70, 3) := by decide +kernel
theorem dX8_isSeenBy_5 : decode cX8_isSeenBy 5 = .ok (.aload_n 0, 1) := by decide +kernel
theorem dX8_isSeenBy_6 : decode cX8_isSeenBy 6 = .ok (.getfield 9, 3) := by decide +kernel
theorem dX8_isSeenBy_9 : decode cX8_isSeenBy 9 = .ok (.iconst 0, 1) := by decide +kernel
theorem dX8_isSeenBy_10 : decode cX8_isSeenBy 10 = .ok (.iaload, 1) := by decide +kernel
theorem dX8_isSeenBy_11 : decode cX8_isSeenBy 11 = .ok (.if_icmp .lt 7, 3) := by decide +kernel
theorem dX8_isSeenBy_14 : decode cX8_isSeenBy 14 = .ok (.iconst 1, 1) := by decide +kernel
theorem dX8_isSeenBy_15 : decode cX8_isSeenBy 15 = .ok (.goto 4, 3) := by decide +kernel
theorem dX8_isSeenBy_18 : decode cX8_isSeenBy 18 = .ok (.iconst 0, 1) := by decide +kernel
theorem dX8_isSeenBy_19 : decode cX8_isSeenBy 19 = .ok (.ireturn, 1) := by decide +kernel
theorem dX8_seeing_0 : decode cX8_seeing 0 = .ok (.iconst 0, 1) := by decide +kernel
theorem dX8_seeing_1 : decode cX8_seeing 1 = .ok (.istore_n 3, 1) := by decide +kernel
theorem dX8_seeing_2 : decode cX8_seeing 2 = .ok (.iconst 0, 1) := by decide +kernel
theorem dX8_seeing_3 : decode cX8_seeing 3 = .ok (.istore 4, 2) := by decide +kernel
theorem dX8_seeing_5 : decode cX8_seeing 5 = .ok (.iload 4, 2) := by decide +kernel
theorem dX8_seeing_7 : decode cX8_seeing 7 = .ok (.aload_n 0, 1) := by decide +kernel
theorem dX8_seeing_8 : decode cX8_seeing 8 = .ok (.iload_n 1, 1) := by decide +kernel
theorem dX8_seeing_9 : decode cX8_seeing 9 = .ok (.invokevirtual 74, 3) := by decide +kernel
theorem dX8_seeing_12 : decode cX8_seeing 12 = .ok (.if_icmp .ge 31, 3) := by decide +kernel
theorem dX8_seeing_15 : decode cX8_seeing 15 = .ok (.aload_n 0, 1) := by decide +kernel
theorem dX8_seeing_16 : decode cX8_seeing 16 = .ok (.aload_n 0, 1) := by decide +kernel
theorem dX8_seeing_17 : decode cX8_seeing 17 = .ok (.iload_n 1, 1) := by decide +kernel
theorem dX8_seeing_18 : decode cX8_seeing 18 = .ok (.iload 4, 2) := by decide +kernel
theorem dX8_seeing_20 : decode cX8_seeing 20 = .ok (.invokevirtual 78, 3) := by decide +kernel
theorem dX8_seeing_23 : decode cX8_seeing 23 = .ok (.iload_n 2, 1) := by decide +kernel
theorem dX8_seeing_24 : decode cX8_seeing 24 = .ok (.invokevirtual 81, 3) := by decide +kernel
theorem dX8_seeing_27 : decode cX8_seeing 27 = .ok (.ifCond .eq 10, 3) := by decide +kernel
theorem dX8_seeing_30 : decode cX8_seeing 30 = .ok (.iload_n 3, 1) := by decide +kernel
theorem dX8_seeing_31 : decode cX8_seeing 31 = .ok (.iconst 1, 1) := by decide +kernel
theorem dX8_seeing_32 : decode cX8_seeing 32 = .ok (.iload 4, 2) := by decide +kernel
theorem dX8_seeing_34 : decode cX8_seeing 34 = .ok (.ishl, 1) := by decide +kernel
theorem dX8_seeing_35 : decode cX8_seeing 35 = .ok (.ior, 1) := by decide +kernel
theorem dX8_seeing_36 : decode cX8_seeing 36 = .ok (.istore_n 3, 1) := by decide +kernel
theorem dX8_seeing_37 : decode cX8_seeing 37 = .ok (.iinc 4 1, 3) := by decide +kernel
theorem dX8_seeing_40 : decode cX8_seeing 40 = .ok (.goto (-35), 3) := by decide +kernel
theorem dX8_seeing_43 : decode cX8_seeing 43 = .ok (.iload_n 3, 1) := by decide +kernel
theorem dX8_seeing_44 : decode cX8_seeing 44 = .ok (.ireturn, 1) := by decide +kernel
theorem dX8_sees_0 : decode cX8_sees 0 = .ok (.aload_n 0, 1) := by decide +kernel
theorem dX8_sees_1 : decode cX8_sees 1 = .ok (.iload_n 1, 1) := by decide +kernel
theorem dX8_sees_2 : decode cX8_sees 2 = .ok (.iload_n 2, 1) := by decide +kernel
theorem dX8_sees_3 : decode cX8_sees 3 = .ok (.invokevirtual 85, 3) := by decide +kernel
theorem dX8_sees_6 : decode cX8_sees 6 = .ok (.invokestatic 88, 3) := by decide +kernel
theorem dX8_sees_9 : decode cX8_sees 9 = .ok (.aload_n 0, 1) := by decide +kernel
theorem dX8_sees_10 : decode cX8_sees 10 = .ok (.getfield 9, 3) := by decide +kernel
theorem dX8_sees_13 : decode cX8_sees 13 = .ok (.iconst 1, 1) := by decide +kernel
theorem dX8_sees_14 : decode cX8_sees 14 = .ok (.iaload, 1) := by decide +kernel
theorem dX8_sees_15 : decode cX8_sees 15 = .ok (.if_icmp .lt 7, 3) := by decide +kernel
theorem dX8_sees_18 : decode cX8_sees 18 = .ok (.iconst 1, 1) := by decide +kernel
theorem dX8_sees_19 : decode cX8_sees 19 = .ok (.goto 4, 3) := by decide +kernel
theorem dX8_sees_22 : decode cX8_sees 22 = .ok (.iconst 0, 1) := by decide +kernel
theorem dX8_sees_23 : decode cX8_sees 23 = .ok (.ireturn, 1) := by decide +kernel
theorem dX8_seenTo_0 : decode cX8_seenTo 0 = .ok (.iconst 0, 1) := by decide +kernel
theorem dX8_seenTo_1 : decode cX8_seenTo 1 = .ok (.istore_n 3, 1) := by decide +kernel
theorem dX8_seenTo_2 : decode cX8_seenTo 2 = .ok (.iconst 1, 1) := by decide +kernel
theorem dX8_seenTo_3 : decode cX8_seenTo 3 = .ok (.istore 4, 2) := by decide +kernel
theorem dX8_seenTo_5 : decode cX8_seenTo 5 = .ok (.iload 4, 2) := by decide +kernel
theorem dX8_seenTo_7 : decode cX8_seenTo 7 = .ok (.iload_n 2, 1) := by decide +kernel
theorem dX8_seenTo_8 : decode cX8_seenTo 8 = .ok (.if_icmp .gt 22, 3) := by decide +kernel
theorem dX8_seenTo_11 : decode cX8_seenTo 11 = .ok (.aload_n 0, 1) := by decide +kernel
theorem dX8_seenTo_12 : decode cX8_seenTo 12 = .ok (.iload_n 1, 1) := by decide +kernel
theorem dX8_seenTo_13 : decode cX8_seenTo 13 = .ok (.iload 4, 2) := by decide +kernel
theorem dX8_seenTo_15 : decode cX8_seenTo 15 = .ok (.invokevirtual 93, 3) := by decide +kernel
theorem dX8_seenTo_18 : decode cX8_seenTo 18 = .ok (.ifCond .eq 6, 3) := by decide +kernel
theorem dX8_seenTo_21 : decode cX8_seenTo 21 = .ok (.iinc 3 1, 3) := by decide +kernel
theorem dX8_seenTo_24 : decode cX8_seenTo 24 = .ok (.iinc 4 1, 3) := by decide +kernel
theorem dX8_seenTo_27 : decode cX8_seenTo 27 = .ok (.goto (-22), 3) := by decide +kernel
theorem dX8_seenTo_30 : decode cX8_seenTo 30 = .ok (.iload_n 3, 1) := by decide +kernel
theorem dX8_seenTo_31 : decode cX8_seenTo 31 = .ok (.ireturn, 1) := by decide +kernel
theorem dX8_firstUnseen_0 : decode cX8_firstUnseen 0 = .ok (.iconst 1, 1) := by decide +kernel
theorem dX8_firstUnseen_1 : decode cX8_firstUnseen 1 = .ok (.istore_n 3, 1) := by decide +kernel
theorem dX8_firstUnseen_2 : decode cX8_firstUnseen 2 = .ok (.iload_n 3, 1) := by decide +kernel
theorem dX8_firstUnseen_3 : decode cX8_firstUnseen 3 = .ok (.iload_n 2, 1) := by decide +kernel
theorem dX8_firstUnseen_4 : decode cX8_firstUnseen 4 = .ok (.if_icmp .gt 20, 3) := by decide +kernel
theorem dX8_firstUnseen_7 : decode cX8_firstUnseen 7 = .ok (.aload_n 0, 1) := by decide +kernel
theorem dX8_firstUnseen_8 : decode cX8_firstUnseen 8 = .ok (.iload_n 1, 1) := by decide +kernel
theorem dX8_firstUnseen_9 : decode cX8_firstUnseen 9 = .ok (.iload_n 3, 1) := by decide +kernel
theorem dX8_firstUnseen_10 : decode cX8_firstUnseen 10 = .ok (.invokevirtual 93, 3) := by decide +kernel
theorem dX8_firstUnseen_13 : decode cX8_firstUnseen 13 = .ok (.ifCond .ne 5, 3) := by decide +kernel
theorem dX8_firstUnseen_16 : decode cX8_firstUnseen 16 = .ok (.iload_n 3, 1) := by decide +kernel
theorem dX8_firstUnseen_17 : decode cX8_firstUnseen 17 = .ok (.ireturn, 1) := by decide +kernel
theorem dX8_firstUnseen_18 : decode cX8_firstUnseen 18 = .ok (.iinc 3 1, 3) := by decide +kernel
theorem dX8_firstUnseen_21 : decode cX8_firstUnseen 21 = .ok (.goto (-19), 3) := by decide +kernel
theorem dX8_firstUnseen_24 : decode cX8_firstUnseen 24 = .ok (.iconst (-1), 1) := by decide +kernel
theorem dX8_firstUnseen_25 : decode cX8_firstUnseen 25 = .ok (.ireturn, 1) := by decide +kernel
theorem dX8_choose_0 : decode cX8_choose 0 = .ok (.aload_n 0, 1) := by decide +kernel
theorem dX8_choose_1 : decode cX8_choose 1 = .ok (.getfield 24, 3) := by decide +kernel
theorem dX8_choose_4 : decode cX8_choose 4 = .ok (.iconst 0, 1) := by decide +kernel
theorem dX8_choose_5 : decode cX8_choose 5 = .ok (.invokestatic 31, 3) := by decide +kernel
theorem dX8_choose_8 : decode cX8_choose 8 = .ok (.iconst 1, 1) := by decide +kernel
theorem dX8_choose_9 : decode cX8_choose 9 = .ok (.istore 4, 2) := by decide +kernel
theorem dX8_choose_11 : decode cX8_choose 11 = .ok (.iload 4, 2) := by decide +kernel
theorem dX8_choose_13 : decode cX8_choose 13 = .ok (.iload_n 3, 1) := by decide +kernel
theorem dX8_choose_14 : decode cX8_choose 14 = .ok (.if_icmp .gt 44, 3) := by decide +kernel
theorem dX8_choose_17 : decode cX8_choose 17 = .ok (.aload_n 0, 1) := by decide +kernel
theorem dX8_choose_18 : decode cX8_choose 18 = .ok (.iload_n 1, 1) := by decide +kernel
theorem dX8_choose_19 : decode cX8_choose 19 = .ok (.iload 4, 2) := by decide +kernel
theorem dX8_choose_21 : decode cX8_choose 21 = .ok (.invokevirtual 85, 3) := by decide +kernel
theorem dX8_choose_24 : decode cX8_choose 24 = .ok (.istore 5, 2) := by decide +kernel
theorem dX8_choose_26 : decode cX8_choose 26 = .ok (.iload 5, 2) := by decide +kernel
theorem dX8_choose_28 : decode cX8_choose 28 = .ok (.ifCond .lt 24, 3) := by decide +kernel
theorem dX8_choose_31 : decode cX8_choose 31 = .ok (.iload 5, 2) := by decide +kernel
theorem dX8_choose_33 : decode cX8_choose 33 = .ok (.aload_n 0, 1) := by decide +kernel
theorem dX8_choose_34 : decode cX8_choose 34 = .ok (.getfield 24, 3) := by decide +kernel
theorem dX8_choose_37 : decode cX8_choose 37 = .ok (.arraylength, 1) := by decide +kernel
theorem dX8_choose_38 : decode cX8_choose 38 = .ok (.if_icmp .ge 14, 3) := by decide +kernel
theorem dX8_choose_41 : decode cX8_choose 41 = .ok (.aload_n 0, 1) := by decide +kernel
theorem dX8_choose_42 : decode cX8_choose 42 = .ok (.getfield 24, 3) := by decide +kernel
theorem dX8_choose_45 : decode cX8_choose 45 = .ok (.iload 5, 2) := by decide +kernel
theorem dX8_choose_47 : decode cX8_choose 47 = .ok (.dup2, 1) := by decide +kernel
theorem dX8_choose_48 : decode cX8_choose 48 = .ok (.iaload, 1) := by decide +kernel
theorem dX8_choose_49 : decode cX8_choose 49 = .ok (.iconst 1, 1) := by decide +kernel
theorem dX8_choose_50 : decode cX8_choose 50 = .ok (.iadd, 1) := by decide +kernel
theorem dX8_choose_51 : decode cX8_choose 51 = .ok (.iastore, 1) := by decide +kernel
theorem dX8_choose_52 : decode cX8_choose 52 = .ok (.iinc 4 1, 3) := by decide +kernel
theorem dX8_choose_55 : decode cX8_choose 55 = .ok (.goto (-44), 3) := by decide +kernel
theorem dX8_choose_58 : decode cX8_choose 58 = .ok (.aload_n 0, 1) := by decide +kernel
theorem dX8_choose_59 : decode cX8_choose 59 = .ok (.iconst (-1), 1) := by decide +kernel
theorem dX8_choose_60 : decode cX8_choose 60 = .ok (.putfield 96, 3) := by decide +kernel
theorem dX8_choose_63 : decode cX8_choose 63 = .ok (.aload_n 0, 1) := by decide +kernel
theorem dX8_choose_64 : decode cX8_choose 64 = .ok (.iconst (-1), 1) := by decide +kernel
theorem dX8_choose_65 : decode cX8_choose 65 = .ok (.putfield 99, 3) := by decide +kernel
theorem dX8_choose_68 : decode cX8_choose 68 = .ok (.iconst 1, 1) := by decide +kernel
theorem dX8_choose_69 : decode cX8_choose 69 = .ok (.istore 4, 2) := by decide +kernel
theorem dX8_choose_71 : decode cX8_choose 71 = .ok (.iload 4, 2) := by decide +kernel
theorem dX8_choose_73 : decode cX8_choose 73 = .ok (.iconst 1, 1) := by decide +kernel
theorem dX8_choose_74 : decode cX8_choose 74 = .ok (.aload_n 0, 1) := by decide +kernel
theorem dX8_choose_75 : decode cX8_choose 75 = .ok (.iload_n 1, 1) := by decide +kernel
theorem dX8_choose_76 : decode cX8_choose 76 = .ok (.invokevirtual 74, 3) := by decide +kernel
theorem dX8_choose_79 : decode cX8_choose 79 = .ok (.ishl, 1) := by decide +kernel
theorem dX8_choose_80 : decode cX8_choose 80 = .ok (.if_icmp .ge 30, 3) := by decide +kernel
theorem dX8_choose_83 : decode cX8_choose 83 = .ok (.iload 4, 2) := by decide +kernel
theorem dX8_choose_85 : decode cX8_choose 85 = .ok (.invokestatic 88, 3) := by decide +kernel
theorem dX8_choose_88 : decode cX8_choose 88 = .ok (.iload_n 2, 1) := by decide +kernel
theorem dX8_choose_89 : decode cX8_choose 89 = .ok (.if_icmp .ne 15, 3) := by decide +kernel
theorem dX8_choose_92 : decode cX8_choose 92 = .ok (.aload_n 0, 1) := by decide +kernel
theorem dX8_choose_93 : decode cX8_choose 93 = .ok (.iload 4, 2) := by decide +kernel
theorem dX8_choose_95 : decode cX8_choose 95 = .ok (.aload_n 0, 1) := by decide +kernel
theorem dX8_choose_96 : decode cX8_choose 96 = .ok (.iload 4, 2) := by decide +kernel
theorem dX8_choose_98 : decode cX8_choose 98 = .ok (.invokevirtual 102, 3) := by decide +kernel
theorem dX8_choose_101 : decode cX8_choose 101 = .ok (.invokevirtual 105, 3) := by decide +kernel
theorem dX8_choose_104 : decode cX8_choose 104 = .ok (.iinc 4 1, 3) := by decide +kernel
theorem dX8_choose_107 : decode cX8_choose 107 = .ok (.goto (-36), 3) := by decide +kernel
theorem dX8_choose_110 : decode cX8_choose 110 = .ok (.return_, 1) := by decide +kernel
theorem dX8_seenByChoice_0 : decode cX8_seenByChoice 0 = .ok (.iconst 0, 1) := by decide +kernel
theorem dX8_seenByChoice_1 : decode cX8_seenByChoice 1 = .ok (.istore_n 2, 1) := by decide +kernel
theorem dX8_seenByChoice_2 : decode cX8_seenByChoice 2 = .ok (.iconst 0, 1) := by decide +kernel
theorem dX8_seenByChoice_3 : decode cX8_seenByChoice 3 = .ok (.istore_n 3, 1) := by decide +kernel
theorem dX8_seenByChoice_4 : decode cX8_seenByChoice 4 = .ok (.iload_n 3, 1) := by decide +kernel
theorem dX8_seenByChoice_5 : decode cX8_seenByChoice 5 = .ok (.aload_n 0, 1) := by decide +kernel
theorem dX8_seenByChoice_6 : decode cX8_seenByChoice 6 = .ok (.getfield 24, 3) := by decide +kernel
theorem dX8_seenByChoice_9 : decode cX8_seenByChoice 9 = .ok (.arraylength, 1) := by decide +kernel
theorem dX8_seenByChoice_10 : decode cX8_seenByChoice 10 = .ok (.if_icmp .ge 33, 3) := by decide +kernel
theorem dX8_seenByChoice_13 : decode cX8_seenByChoice 13 = .ok (.iload_n 3, 1) := by decide +kernel
theorem dX8_seenByChoice_14 : decode cX8_seenByChoice 14 = .ok (.iload_n 1, 1) := by decide +kernel
theorem dX8_seenByChoice_15 : decode cX8_seenByChoice 15 = .ok (.iand, 1) := by decide +kernel
theorem dX8_seenByChoice_16 : decode cX8_seenByChoice 16 = .ok (.invokestatic 88, 3) := by decide +kernel
theorem dX8_seenByChoice_19 : decode cX8_seenByChoice 19 = .ok (.aload_n 0, 1) := by decide +kernel
theorem dX8_seenByChoice_20 : decode cX8_seenByChoice 20 = .ok (.getfield 9, 3) := by decide +kernel
theorem dX8_seenByChoice_23 : decode cX8_seenByChoice 23 = .ok (.iconst 1, 1) := by decide +kernel
theorem dX8_seenByChoice_24 : decode cX8_seenByChoice 24 = .ok (.iaload, 1) := by decide +kernel
theorem dX8_seenByChoice_25 : decode cX8_seenByChoice 25 = .ok (.if_icmp .lt 12, 3) := by decide +kernel
theorem dX8_seenByChoice_28 : decode cX8_seenByChoice 28 = .ok (.iload_n 2, 1) := by decide +kernel
theorem dX8_seenByChoice_29 : decode cX8_seenByChoice 29 = .ok (.aload_n 0, 1) := by decide +kernel
theorem dX8_seenByChoice_30 : decode cX8_seenByChoice 30 = .ok (.getfield 24, 3) := by decide +kernel
theorem dX8_seenByChoice_33 : decode cX8_seenByChoice 33 = .ok (.iload_n 3, 1) := by decide +kernel
theorem dX8_seenByChoice_34 : decode cX8_seenByChoice 34 = .ok (.iaload, 1) := by decide +kernel
theorem dX8_seenByChoice_35 : decode cX8_seenByChoice 35 = .ok (.iadd, 1) := by decide +kernel
theorem dX8_seenByChoice_36 : decode cX8_seenByChoice 36 = .ok (.istore_n 2, 1) := by decide +kernel
theorem dX8_seenByChoice_37 : decode cX8_seenByChoice 37 = .ok (.iinc 3 1, 3) := by decide +kernel
theorem dX8_seenByChoice_40 : decode cX8_seenByChoice 40 = .ok (.goto (-36), 3) := by decide +kernel
theorem dX8_seenByChoice_43 : decode cX8_seenByChoice 43 = .ok (.iload_n 2, 1) := by decide +kernel
theorem dX8_seenByChoice_44 : decode cX8_seenByChoice 44 = .ok (.ireturn, 1) := by decide +kernel
theorem dX8_prefer_0 : decode cX8_prefer 0 = .ok (.iload_n 2, 1) := by decide +kernel
theorem dX8_prefer_1 : decode cX8_prefer 1 = .ok (.aload_n 0, 1) := by decide +kernel
theorem dX8_prefer_2 : decode cX8_prefer 2 = .ok (.getfield 99, 3) := by decide +kernel
theorem dX8_prefer_5 : decode cX8_prefer 5 = .ok (.if_icmp .le 13, 3) := by decide +kernel
theorem dX8_prefer_8 : decode cX8_prefer 8 = .ok (.aload_n 0, 1) := by decide +kernel
theorem dX8_prefer_9 : decode cX8_prefer 9 = .ok (.iload_n 1, 1) := by decide +kernel
theorem dX8_prefer_10 : decode cX8_prefer 10 = .ok (.putfield 96, 3) := by decide +kernel
theorem dX8_prefer_13 : decode cX8_prefer 13 = .ok (.aload_n 0, 1) := by decide +kernel
theorem dX8_prefer_14 : decode cX8_prefer 14 = .ok (.iload_n 2, 1) := by decide +kernel
theorem dX8_prefer_15 : decode cX8_prefer 15 = .ok (.putfield 99, 3) := by decide +kernel
theorem dX8_prefer_18 : decode cX8_prefer 18 = .ok (.return_, 1) := by decide +kernel
theorem dX8_putReading_0 : decode cX8_putReading 0 = .ok (.iload_n 1, 1) := by decide +kernel
theorem dX8_putReading_1 : decode cX8_putReading 1 = .ok (.ifCond .lt 23, 3) := by decide +kernel
theorem dX8_putReading_4 : decode cX8_putReading 4 = .ok (.iload_n 1, 1) := by decide +kernel
theorem dX8_putReading_5 : decode cX8_putReading 5 = .ok (.aload_n 0, 1) := by decide +kernel
theorem dX8_putReading_6 : decode cX8_putReading 6 = .ok (.getfield 21, 3) := by decide +kernel
theorem dX8_putReading_9 : decode cX8_putReading 9 = .ok (.arraylength, 1) := by decide +kernel
theorem dX8_putReading_10 : decode cX8_putReading 10 = .ok (.if_icmp .ge 14, 3) := by decide +kernel
theorem dX8_putReading_13 : decode cX8_putReading 13 = .ok (.iload_n 2, 1) := by decide +kernel
theorem dX8_putReading_14 : decode cX8_putReading 14 = .ok (.iconst (-1), 1) := by decide +kernel
theorem dX8_putReading_15 : decode cX8_putReading 15 = .ok (.if_icmp .lt 9, 3) := by decide +kernel
theorem dX8_putReading_18 : decode cX8_putReading 18 = .ok (.iload_n 2, 1) := by decide +kernel
theorem dX8_putReading_19 : decode cX8_putReading 19 = .ok (.bipush 98, 2) := by decide +kernel
theorem dX8_putReading_21 : decode cX8_putReading 21 = .ok (.if_icmp .le 5, 3) := by decide +kernel
theorem dX8_putReading_24 : decode cX8_putReading 24 = .ok (.iconst 0, 1) := by decide +kernel
theorem dX8_putReading_25 : decode cX8_putReading 25 = .ok (.ireturn, 1) := by decide +kernel
theorem dX8_putReading_26 : decode cX8_putReading 26 = .ok (.aload_n 0, 1) := by decide +kernel
theorem dX8_putReading_27 : decode cX8_putReading 27 = .ok (.getfield 21, 3) := by decide +kernel
theorem dX8_putReading_30 : decode cX8_putReading 30 = .ok (.iload_n 1, 1) := by decide +kernel
theorem dX8_putReading_31 : decode cX8_putReading 31 = .ok (.iload_n 2, 1) := by decide +kernel
theorem dX8_putReading_32 : decode cX8_putReading 32 = .ok (.iastore, 1) := by decide +kernel
theorem dX8_putReading_33 : decode cX8_putReading 33 = .ok (.iconst 1, 1) := by decide +kernel
theorem dX8_putReading_34 : decode cX8_putReading 34 = .ok (.ireturn, 1) := by decide +kernel
theorem dX8_readingsFit_0 : decode cX8_readingsFit 0 = .ok (.iconst 0, 1) := by decide +kernel
theorem dX8_readingsFit_1 : decode cX8_readingsFit 1 = .ok (.istore_n 2, 1) := by decide +kernel
theorem dX8_readingsFit_2 : decode cX8_readingsFit 2 = .ok (.iload_n 2, 1) := by decide +kernel
theorem dX8_readingsFit_3 : decode cX8_readingsFit 3 = .ok (.aload_n 0, 1) := by decide +kernel
theorem dX8_readingsFit_4 : decode cX8_readingsFit 4 = .ok (.getfield 21, 3) := by decide +kernel
theorem dX8_readingsFit_7 : decode cX8_readingsFit 7 = .ok (.arraylength, 1) := by decide +kernel
theorem dX8_readingsFit_8 : decode cX8_readingsFit 8 = .ok (.if_icmp .ge 36, 3) := by decide +kernel
theorem dX8_readingsFit_11 : decode cX8_readingsFit 11 = .ok (.aload_n 0, 1) := by decide +kernel
theorem dX8_readingsFit_12 : decode cX8_readingsFit 12 = .ok (.getfield 21, 3) := by decide +kernel
theorem dX8_readingsFit_15 : decode cX8_readingsFit 15 = .ok (.iload_n 2, 1) := by decide +kernel
theorem dX8_readingsFit_16 : decode cX8_readingsFit 16 = .ok (.iaload, 1) := by decide +kernel
theorem dX8_readingsFit_17 : decode cX8_readingsFit 17 = .ok (.iconst (-1), 1) := by decide +kernel
theorem dX8_readingsFit_18 : decode cX8_readingsFit 18 = .ok (.if_icmp .eq 20, 3) := by decide +kernel
theorem dX8_readingsFit_21 : decode cX8_readingsFit 21 = .ok (.aload_n 0, 1) := by decide +kernel
theorem dX8_readingsFit_22 : decode cX8_readingsFit 22 = .ok (.getfield 21, 3) := by decide +kernel
theorem dX8_readingsFit_25 : decode cX8_readingsFit 25 = .ok (.iload_n 2, 1) := by decide +kernel
theorem dX8_readingsFit_26 : decode cX8_readingsFit 26 = .ok (.iaload, 1) := by decide +kernel
theorem dX8_readingsFit_27 : decode cX8_readingsFit 27 = .ok (.aload_n 0, 1) := by decide +kernel
theorem dX8_readingsFit_28 : decode cX8_readingsFit 28 = .ok (.iload_n 1, 1) := by decide +kernel
theorem dX8_readingsFit_29 : decode cX8_readingsFit 29 = .ok (.iload_n 2, 1) := by decide +kernel
theorem dX8_readingsFit_30 : decode cX8_readingsFit 30 = .ok (.invokevirtual 78, 3) := by decide +kernel
theorem dX8_readingsFit_33 : decode cX8_readingsFit 33 = .ok (.if_icmp .lt 5, 3) := by decide +kernel
theorem dX8_readingsFit_36 : decode cX8_readingsFit 36 = .ok (.iconst 0, 1) := by decide +kernel
theorem dX8_readingsFit_37 : decode cX8_readingsFit 37 = .ok (.ireturn, 1) := by decide +kernel
theorem dX8_readingsFit_38 : decode cX8_readingsFit 38 = .ok (.iinc 2 1, 3) := by decide +kernel
theorem dX8_readingsFit_41 : decode cX8_readingsFit 41 = .ok (.goto (-39), 3) := by decide +kernel
theorem dX8_readingsFit_44 : decode cX8_readingsFit 44 = .ok (.iconst 1, 1) := by decide +kernel
theorem dX8_readingsFit_45 : decode cX8_readingsFit 45 = .ok (.ireturn, 1) := by decide +kernel
theorem dX8_unfolded_0 : decode cX8_unfolded 0 = .ok (.iconst 0, 1) := by decide +kernel
theorem dX8_unfolded_1 : decode cX8_unfolded 1 = .ok (.istore 6, 2) := by decide +kernel
theorem dX8_unfolded_3 : decode cX8_unfolded 3 = .ok (.iconst 0, 1) := by decide +kernel
theorem dX8_unfolded_4 : decode cX8_unfolded 4 = .ok (.istore 7, 2) := by decide +kernel
theorem dX8_unfolded_6 : decode cX8_unfolded 6 = .ok (.iload 7, 2) := by decide +kernel
theorem dX8_unfolded_8 : decode cX8_unfolded 8 = .ok (.iload_n 2, 1) := by decide +kernel
theorem dX8_unfolded_9 : decode cX8_unfolded 9 = .ok (.if_icmp .gt 38, 3) := by decide +kernel
theorem dX8_unfolded_12 : decode cX8_unfolded 12 = .ok (.aload_n 0, 1) := by decide +kernel
theorem dX8_unfolded_13 : decode cX8_unfolded 13 = .ok (.iload_n 1, 1) := by decide +kernel
theorem dX8_unfolded_14 : decode cX8_unfolded 14 = .ok (.iload 7, 2) := by decide +kernel
theorem dX8_unfolded_16 : decode cX8_unfolded 16 = .ok (.iload 4, 2) := by decide +kernel
theorem dX8_unfolded_18 : decode cX8_unfolded 18 = .ok (.invokevirtual 108, 3) := by decide +kernel
theorem dX8_unfolded_21 : decode cX8_unfolded 21 = .ok (.iload_n 3, 1) := by decide +kernel
theorem dX8_unfolded_22 : decode cX8_unfolded 22 = .ok (.if_icmp .le 6, 3) := by decide +kernel
theorem dX8_unfolded_25 : decode cX8_unfolded 25 = .ok (.goto 16, 3) := by decide +kernel
theorem dX8_unfolded_28 : decode cX8_unfolded 28 = .ok (.iload 6, 2) := by decide +kernel
theorem dX8_unfolded_30 : decode cX8_unfolded 30 = .ok (.iload 5, 2) := by decide +kernel
theorem dX8_unfolded_32 : decode cX8_unfolded 32 = .ok (.if_icmp .ne 6, 3) := by decide +kernel
theorem dX8_unfolded_35 : decode cX8_unfolded 35 = .ok (.iload 7, 2) := by decide +kernel
theorem dX8_unfolded_37 : decode cX8_unfolded 37 = .ok (.ireturn, 1) := by decide +kernel
theorem dX8_unfolded_38 : decode cX8_unfolded 38 = .ok (.iinc 6 1, 3) := by decide +kernel
theorem dX8_unfolded_41 : decode cX8_unfolded 41 = .ok (.iinc 7 1, 3) := by decide +kernel
theorem dX8_unfolded_44 : decode cX8_unfolded 44 = .ok (.goto (-38), 3) := by decide +kernel
theorem dX8_unfolded_47 : decode cX8_unfolded 47 = .ok (.iload 5, 2) := by decide +kernel
theorem dX8_unfolded_49 : decode cX8_unfolded 49 = .ok (.iconst (-1), 1) := by decide +kernel
theorem dX8_unfolded_50 : decode cX8_unfolded 50 = .ok (.if_icmp .ne 8, 3) := by decide +kernel
theorem dX8_unfolded_53 : decode cX8_unfolded 53 = .ok (.iload 6, 2) := by decide +kernel
theorem dX8_unfolded_55 : decode cX8_unfolded 55 = .ok (.goto 4, 3) := by decide +kernel
theorem dX8_unfolded_58 : decode cX8_unfolded 58 = .ok (.iconst (-1), 1) := by decide +kernel
theorem dX8_unfolded_59 : decode cX8_unfolded 59 = .ok (.ireturn, 1) := by decide +kernel
theorem dX8_manyToldOff_0 : decode cX8_manyToldOff 0 = .ok (.iconst 0, 1) := by decide +kernel
theorem dX8_manyToldOff_1 : decode cX8_manyToldOff 1 = .ok (.istore 4, 2) := by decide +kernel
theorem dX8_manyToldOff_3 : decode cX8_manyToldOff 3 = .ok (.iconst 0, 1) := by decide +kernel
theorem dX8_manyToldOff_4 : decode cX8_manyToldOff 4 = .ok (.istore 5, 2) := by decide +kernel
theorem dX8_manyToldOff_6 : decode cX8_manyToldOff 6 = .ok (.iload 5, 2) := by decide +kernel
theorem dX8_manyToldOff_8 : decode cX8_manyToldOff 8 = .ok (.aload_n 0, 1) := by decide +kernel
theorem dX8_manyToldOff_9 : decode cX8_manyToldOff 9 = .ok (.getfield 21, 3) := by decide +kernel
theorem dX8_manyToldOff_12 : decode cX8_manyToldOff 12 = .ok (.arraylength, 1) := by decide +kernel
theorem dX8_manyToldOff_13 : decode cX8_manyToldOff 13 = .ok (.if_icmp .ge 71, 3) := by decide +kernel
theorem dX8_manyToldOff_16 : decode cX8_manyToldOff 16 = .ok (.aload_n 0, 1) := by decide +kernel
theorem dX8_manyToldOff_17 : decode cX8_manyToldOff 17 = .ok (.iload_n 1, 1) := by decide +kernel
theorem dX8_manyToldOff_18 : decode cX8_manyToldOff 18 = .ok (.iload 5, 2) := by decide +kernel
theorem dX8_manyToldOff_20 : decode cX8_manyToldOff 20 = .ok (.invokevirtual 78, 3) := by decide +kernel
theorem dX8_manyToldOff_23 : decode cX8_manyToldOff 23 = .ok (.istore 6, 2) := by decide +kernel
theorem dX8_manyToldOff_25 : decode cX8_manyToldOff 25 = .ok (.aload_n 0, 1) := by decide +kernel
theorem dX8_manyToldOff_26 : decode cX8_manyToldOff 26 = .ok (.getfield 21, 3) := by decide +kernel
theorem dX8_manyToldOff_29 : decode cX8_manyToldOff 29 = .ok (.iload 5, 2) := by decide +kernel
theorem dX8_manyToldOff_31 : decode cX8_manyToldOff 31 = .ok (.iaload, 1) := by decide +kernel
theorem dX8_manyToldOff_32 : decode cX8_manyToldOff 32 = .ok (.iconst (-1), 1) := by decide +kernel
theorem dX8_manyToldOff_33 : decode cX8_manyToldOff 33 = .ok (.if_icmp .eq 45, 3) := by decide +kernel
theorem dX8_manyToldOff_36 : decode cX8_manyToldOff 36 = .ok (.iload 6, 2) := by decide +kernel
theorem dX8_manyToldOff_38 : decode cX8_manyToldOff 38 = .ok (.iconst (-1), 1) := by decide +kernel
theorem dX8_manyToldOff_39 : decode cX8_manyToldOff 39 = .ok (.if_icmp .eq 39, 3) := by decide +kernel
theorem dX8_manyToldOff_42 : decode cX8_manyToldOff 42 = .ok (.iload_n 2, 1) := by decide +kernel
theorem dX8_manyToldOff_43 : decode cX8_manyToldOff 43 = .ok (.iload 6, 2) := by decide +kernel
theorem dX8_manyToldOff_45 : decode cX8_manyToldOff 45 = .ok (.invokestatic 70, 3) := by decide +kernel
theorem dX8_manyToldOff_48 : decode cX8_manyToldOff 48 = .ok (.aload_n 0, 1) := by decide +kernel
theorem dX8_manyToldOff_49 : decode cX8_manyToldOff 49 = .ok (.getfield 21, 3) := by decide +kernel
theorem dX8_manyToldOff_52 : decode cX8_manyToldOff 52 = .ok (.iload 5, 2) := by decide +kernel
theorem dX8_manyToldOff_54 : decode cX8_manyToldOff 54 = .ok (.iaload, 1) := by decide +kernel
theorem dX8_manyToldOff_55 : decode cX8_manyToldOff 55 = .ok (.isub, 1) := by decide +kernel
theorem dX8_manyToldOff_56 : decode cX8_manyToldOff 56 = .ok (.invokestatic 112, 3) := by decide +kernel
theorem dX8_manyToldOff_59 : decode cX8_manyToldOff 59 = .ok (.istore 7, 2) := by decide +kernel
theorem dX8_manyToldOff_61 : decode cX8_manyToldOff 61 = .ok (.iload 7, 2) := by decide +kernel
theorem dX8_manyToldOff_63 : decode cX8_manyToldOff 63 = .ok (.iload 6, 2) := by decide +kernel
theorem dX8_manyToldOff_65 : decode cX8_manyToldOff 65 = .ok (.iload 7, 2) := by decide +kernel
theorem dX8_manyToldOff_67 : decode cX8_manyToldOff 67 = .ok (.isub, 1) := by decide +kernel
theorem dX8_manyToldOff_68 : decode cX8_manyToldOff 68 = .ok (.invokestatic 117, 3) := by decide +kernel
theorem dX8_manyToldOff_71 : decode cX8_manyToldOff 71 = .ok (.iload_n 3, 1) := by decide +kernel
theorem dX8_manyToldOff_72 : decode cX8_manyToldOff 72 = .ok (.if_icmp .le 6, 3) := by decide +kernel
theorem dX8_manyToldOff_75 : decode cX8_manyToldOff 75 = .ok (.iinc 4 1, 3) := by decide +kernel
theorem dX8_manyToldOff_78 : decode cX8_manyToldOff 78 = .ok (.iinc 5 1, 3) := by decide +kernel
theorem dX8_manyToldOff_81 : decode cX8_manyToldOff 81 = .ok (.goto (-75), 3) := by decide +kernel
theorem dX8_manyToldOff_84 : decode cX8_manyToldOff 84 = .ok (.iload 4, 2) := by decide +kernel
theorem dX8_manyToldOff_86 : decode cX8_manyToldOff 86 = .ok (.ireturn, 1) := by decide +kernel
theorem dX8_ghostsOf_0 : decode cX8_ghostsOf 0 = .ok (.iconst 0, 1) := by decide +kernel
theorem dX8_ghostsOf_1 : decode cX8_ghostsOf 1 = .ok (.istore 5, 2) := by decide +kernel
theorem dX8_ghostsOf_3 : decode cX8_ghostsOf 3 = .ok (.iconst 0, 1) := by decide +kernel
theorem dX8_ghostsOf_4 : decode cX8_ghostsOf 4 = .ok (.istore 6, 2) := by decide +kernel
theorem dX8_ghostsOf_6 : decode cX8_ghostsOf 6 = .ok (.iload 6, 2) := by decide +kernel
theorem dX8_ghostsOf_8 : decode cX8_ghostsOf 8 = .ok (.iload 4, 2) := by decide +kernel
theorem dX8_ghostsOf_10 : decode cX8_ghostsOf 10 = .ok (.if_icmp .gt 36, 3) := by decide +kernel
theorem dX8_ghostsOf_13 : decode cX8_ghostsOf 13 = .ok (.iload 6, 2) := by decide +kernel
theorem dX8_ghostsOf_15 : decode cX8_ghostsOf 15 = .ok (.iload_n 2, 1) := by decide +kernel
theorem dX8_ghostsOf_16 : decode cX8_ghostsOf 16 = .ok (.if_icmp .eq 24, 3) := by decide +kernel
theorem dX8_ghostsOf_19 : decode cX8_ghostsOf 19 = .ok (.iload 6, 2) := by decide +kernel
theorem dX8_ghostsOf_21 : decode cX8_ghostsOf 21 = .ok (.iload_n 3, 1) := by decide +kernel
theorem dX8_ghostsOf_22 : decode cX8_ghostsOf 22 = .ok (.if_icmp .eq 18, 3) := by decide +kernel
theorem dX8_ghostsOf_25 : decode cX8_ghostsOf 25 = .ok (.aload_n 0, 1) := by decide +kernel
theorem dX8_ghostsOf_26 : decode cX8_ghostsOf 26 = .ok (.iload_n 1, 1) := by decide +kernel
theorem dX8_ghostsOf_27 : decode cX8_ghostsOf 27 = .ok (.iload_n 2, 1) := by decide +kernel
theorem dX8_ghostsOf_28 : decode cX8_ghostsOf 28 = .ok (.iload_n 3, 1) := by decide +kernel
theorem dX8_ghostsOf_29 : decode cX8_ghostsOf 29 = .ok (.iload 6, 2) := by decide +kernel
theorem dX8_ghostsOf_31 : decode cX8_ghostsOf 31 = .ok (.invokevirtual 120, 3) := by decide +kernel
theorem dX8_ghostsOf_34 : decode cX8_ghostsOf 34 = .ok (.ifCond .eq 6, 3) := by decide +kernel
theorem dX8_ghostsOf_37 : decode cX8_ghostsOf 37 = .ok (.iinc 5 1, 3) := by decide +kernel
theorem dX8_ghostsOf_40 : decode cX8_ghostsOf 40 = .ok (.iinc 6 1, 3) := by decide +kernel
theorem dX8_ghostsOf_43 : decode cX8_ghostsOf 43 = .ok (.goto (-37), 3) := by decide +kernel
theorem dX8_ghostsOf_46 : decode cX8_ghostsOf 46 = .ok (.iload 5, 2) := by decide +kernel
theorem dX8_ghostsOf_48 : decode cX8_ghostsOf 48 = .ok (.ireturn, 1) := by decide +kernel
theorem dX8_isGhost_0 : decode cX8_isGhost 0 = .ok (.iconst 0, 1) := by decide +kernel
theorem dX8_isGhost_1 : decode cX8_isGhost 1 = .ok (.istore 5, 2) := by decide +kernel
theorem dX8_isGhost_3 : decode cX8_isGhost 3 = .ok (.iload 5, 2) := by decide +kernel
theorem dX8_isGhost_5 : decode cX8_isGhost 5 = .ok (.aload_n 0, 1) := by decide +kernel
theorem dX8_isGhost_6 : decode cX8_isGhost 6 = .ok (.iload_n 1, 1) := by decide +kernel
theorem dX8_isGhost_7 : decode cX8_isGhost 7 = .ok (.invokevirtual 74, 3) := by decide +kernel
theorem dX8_isGhost_10 : decode cX8_isGhost 10 = .ok (.if_icmp .ge 51, 3) := by decide +kernel
theorem dX8_isGhost_13 : decode cX8_isGhost 13 = .ok (.aload_n 0, 1) := by decide +kernel
theorem dX8_isGhost_14 : decode cX8_isGhost 14 = .ok (.iload_n 1, 1) := by decide +kernel
theorem dX8_isGhost_15 : decode cX8_isGhost 15 = .ok (.iload 5, 2) := by decide +kernel
theorem dX8_isGhost_17 : decode cX8_isGhost 17 = .ok (.invokevirtual 78, 3) := by decide +kernel
theorem dX8_isGhost_20 : decode cX8_isGhost 20 = .ok (.istore 6, 2) := by decide +kernel
theorem dX8_isGhost_22 : decode cX8_isGhost 22 = .ok (.iload 4, 2) := by decide +kernel
theorem dX8_isGhost_24 : decode cX8_isGhost 24 = .ok (.iload 6, 2) := by decide +kernel
theorem dX8_isGhost_26 : decode cX8_isGhost 26 = .ok (.invokestatic 70, 3) := by decide +kernel
theorem dX8_isGhost_29 : decode cX8_isGhost 29 = .ok (.istore 7, 2) := by decide +kernel
theorem dX8_isGhost_31 : decode cX8_isGhost 31 = .ok (.iload 7, 2) := by decide +kernel
theorem dX8_isGhost_33 : decode cX8_isGhost 33 = .ok (.iload_n 2, 1) := by decide +kernel
theorem dX8_isGhost_34 : decode cX8_isGhost 34 = .ok (.iload 6, 2) := by decide +kernel
theorem dX8_isGhost_36 : decode cX8_isGhost 36 = .ok (.invokestatic 70, 3) := by decide +kernel
theorem dX8_isGhost_39 : decode cX8_isGhost 39 = .ok (.if_icmp .eq 16, 3) := by decide +kernel
theorem dX8_isGhost_42 : decode cX8_isGhost 42 = .ok (.iload 7, 2) := by decide +kernel
theorem dX8_isGhost_44 : decode cX8_isGhost 44 = .ok (.iload_n 3, 1) := by decide +kernel
theorem dX8_isGhost_45 : decode cX8_isGhost 45 = .ok (.iload 6, 2) := by decide +kernel
theorem dX8_isGhost_47 : decode cX8_isGhost 47 = .ok (.invokestatic 70, 3) := by decide +kernel
theorem dX8_isGhost_50 : decode cX8_isGhost 50 = .ok (.if_icmp .eq 5, 3) := by decide +kernel
theorem dX8_isGhost_53 : decode cX8_isGhost 53 = .ok (.iconst 0, 1) := by decide +kernel
theorem dX8_isGhost_54 : decode cX8_isGhost 54 = .ok (.ireturn, 1) := by decide +kernel
theorem dX8_isGhost_55 : decode cX8_isGhost 55 = .ok (.iinc 5 1, 3) := by decide +kernel
theorem dX8_isGhost_58 : decode cX8_isGhost 58 = .ok (.goto (-55), 3) := by decide +kernel
theorem dX8_isGhost_61 : decode cX8_isGhost 61 = .ok (.iconst 1, 1) := by decide +kernel
theorem dX8_isGhost_62 : decode cX8_isGhost 62 = .ok (.ireturn, 1) := by decide +kernel
theorem dX8_staggerBest_0 : decode cX8_staggerBest 0 = .ok (.aload_n 0, 1) := by decide +kernel
theorem dX8_staggerBest_1 : decode cX8_staggerBest 1 = .ok (.iload_n 2, 1) := by decide +kernel
theorem dX8_staggerBest_2 : decode cX8_staggerBest 2 = .ok (.iload_n 3, 1) := by decide +kernel
theorem dX8_staggerBest_3 : decode cX8_staggerBest 3 = .ok (.iload 4, 2) := by decide +kernel
theorem dX8_staggerBest_5 : decode cX8_staggerBest 5 = .ok (.invokevirtual 124, 3) := by decide +kernel
theorem dX8_staggerBest_8 : decode cX8_staggerBest 8 = .ok (.aload_n 0, 1) := by decide +kernel
theorem dX8_staggerBest_9 : decode cX8_staggerBest 9 = .ok (.iconst (-1), 1) := by decide +kernel
theorem dX8_staggerBest_10 : decode cX8_staggerBest 10 = .ok (.putfield 96, 3) := by decide +kernel
theorem dX8_staggerBest_13 : decode cX8_staggerBest 13 = .ok (.aload_n 0, 1) := by decide +kernel
theorem dX8_staggerBest_14 : decode cX8_staggerBest 14 = .ok (.iconst (-1), 1) := by decide +kernel
theorem dX8_staggerBest_15 : decode cX8_staggerBest 15 = .ok (.putfield 99, 3) := by decide +kernel
theorem dX8_staggerBest_18 : decode cX8_staggerBest 18 = .ok (.iload_n 2, 1) := by decide +kernel
theorem dX8_staggerBest_19 : decode cX8_staggerBest 19 = .ok (.istore 5, 2) := by decide +kernel
theorem dX8_staggerBest_21 : decode cX8_staggerBest 21 = .ok (.iload 5, 2) := by decide +kernel
theorem dX8_staggerBest_23 : decode cX8_staggerBest 23 = .ok (.iload_n 3, 1) := by decide +kernel
theorem dX8_staggerBest_24 : decode cX8_staggerBest 24 = .ok (.if_icmp .gt 39, 3) := by decide +kernel
theorem dX8_staggerBest_27 : decode cX8_staggerBest 27 = .ok (.iload_n 1, 1) := by decide +kernel
theorem dX8_staggerBest_28 : decode cX8_staggerBest 28 = .ok (.iconst 1, 1) := by decide +kernel
theorem dX8_staggerBest_29 : decode cX8_staggerBest 29 = .ok (.if_icmp .ne 20, 3) := by decide +kernel
theorem dX8_staggerBest_32 : decode cX8_staggerBest 32 = .ok (.aload_n 0, 1) := by decide +kernel
theorem dX8_staggerBest_33 : decode cX8_staggerBest 33 = .ok (.iload 5, 2) := by decide +kernel
theorem dX8_staggerBest_35 : decode cX8_staggerBest 35 = .ok (.aload_n 0, 1) := by decide +kernel
theorem dX8_staggerBest_36 : decode cX8_staggerBest 36 = .ok (.iload 5, 2) := by decide +kernel
theorem dX8_staggerBest_38 : decode cX8_staggerBest 38 = .ok (.iconst 0, 1) := by decide +kernel
theorem dX8_staggerBest_39 : decode cX8_staggerBest 39 = .ok (.iconst 0, 1) := by decide +kernel
theorem dX8_staggerBest_40 : decode cX8_staggerBest 40 = .ok (.invokevirtual 128, 3) := by decide +kernel
theorem dX8_staggerBest_43 : decode cX8_staggerBest 43 = .ok (.invokevirtual 105, 3) := by decide +kernel
theorem dX8_staggerBest_46 : decode cX8_staggerBest 46 = .ok (.goto 11, 3) := by decide +kernel
theorem dX8_staggerBest_49 : decode cX8_staggerBest 49 = .ok (.aload_n 0, 1) := by decide +kernel
theorem dX8_staggerBest_50 : decode cX8_staggerBest 50 = .ok (.iload 5, 2) := by decide +kernel
theorem dX8_staggerBest_52 : decode cX8_staggerBest 52 = .ok (.iload_n 1, 1) := by decide +kernel
theorem dX8_staggerBest_53 : decode cX8_staggerBest 53 = .ok (.iload_n 3, 1) := by decide +kernel
theorem dX8_staggerBest_54 : decode cX8_staggerBest 54 = .ok (.invokevirtual 131, 3) := by decide +kernel
theorem dX8_staggerBest_57 : decode cX8_staggerBest 57 = .ok (.iinc 5 1, 3) := by decide +kernel
theorem dX8_staggerBest_60 : decode cX8_staggerBest 60 = .ok (.goto (-39), 3) := by decide +kernel
theorem dX8_staggerBest_63 : decode cX8_staggerBest 63 = .ok (.return_, 1) := by decide +kernel
theorem dX8_staggerBehind_0 : decode cX8_staggerBehind 0 = .ok (.iload_n 1, 1) := by decide +kernel
theorem dX8_staggerBehind_1 : decode cX8_staggerBehind 1 = .ok (.iconst 1, 1) := by decide +kernel
theorem dX8_staggerBehind_2 : decode cX8_staggerBehind 2 = .ok (.iadd, 1) := by decide +kernel
theorem dX8_staggerBehind_3 : decode cX8_staggerBehind 3 = .ok (.istore 4, 2) := by decide +kernel
theorem dX8_staggerBehind_5 : decode cX8_staggerBehind 5 = .ok (.iload 4, 2) := by decide +kernel
theorem dX8_staggerBehind_7 : decode cX8_staggerBehind 7 = .ok (.iload_n 3, 1) := by decide +kernel
theorem dX8_staggerBehind_8 : decode cX8_staggerBehind 8 = .ok (.if_icmp .gt 79, 3) := by decide +kernel
theorem dX8_staggerBehind_11 : decode cX8_staggerBehind 11 = .ok (.iload_n 1, 1) := by decide +kernel
theorem dX8_staggerBehind_12 : decode cX8_staggerBehind 12 = .ok (.bipush 100, 2) := by decide +kernel
theorem dX8_staggerBehind_14 : decode cX8_staggerBehind 14 = .ok (.imul, 1) := by decide +kernel
theorem dX8_staggerBehind_15 : decode cX8_staggerBehind 15 = .ok (.iload 4, 2) := by decide +kernel
theorem dX8_staggerBehind_17 : decode cX8_staggerBehind 17 = .ok (.iadd, 1) := by decide +kernel
theorem dX8_staggerBehind_18 : decode cX8_staggerBehind 18 = .ok (.istore 5, 2) := by decide +kernel
theorem dX8_staggerBehind_20 : decode cX8_staggerBehind 20 = .ok (.iload_n 2, 1) := by decide +kernel
theorem dX8_staggerBehind_21 : decode cX8_staggerBehind 21 = .ok (.iconst 2, 1) := by decide +kernel
theorem dX8_staggerBehind_22 : decode cX8_staggerBehind 22 = .ok (.if_icmp .ne 20, 3) := by decide +kernel
theorem dX8_staggerBehind_25 : decode cX8_staggerBehind 25 = .ok (.aload_n 0, 1) := by decide +kernel
theorem dX8_staggerBehind_26 : decode cX8_staggerBehind 26 = .ok (.iload 5, 2) := by decide +kernel
theorem dX8_staggerBehind_28 : decode cX8_staggerBehind 28 = .ok (.aload_n 0, 1) := by decide +kernel
theorem dX8_staggerBehind_29 : decode cX8_staggerBehind 29 = .ok (.iload_n 1, 1) := by decide +kernel
theorem dX8_staggerBehind_30 : decode cX8_staggerBehind 30 = .ok (.iload 4, 2) := by decide +kernel
theorem dX8_staggerBehind_32 : decode cX8_staggerBehind 32 = .ok (.iconst 0, 1) := by decide +kernel
theorem dX8_staggerBehind_33 : decode cX8_staggerBehind 33 = .ok (.invokevirtual 128, 3) := by decide +kernel
theorem dX8_staggerBehind_36 : decode cX8_staggerBehind 36 = .ok (.invokevirtual 105, 3) := by decide +kernel
theorem dX8_staggerBehind_39 : decode cX8_staggerBehind 39 = .ok (.goto 42, 3) := by decide +kernel
theorem dX8_staggerBehind_42 : decode cX8_staggerBehind 42 = .ok (.iload 4, 2) := by decide +kernel
theorem dX8_staggerBehind_44 : decode cX8_staggerBehind 44 = .ok (.iconst 1, 1) := by decide +kernel
theorem dX8_staggerBehind_45 : decode cX8_staggerBehind 45 = .ok (.iadd, 1) := by decide +kernel
theorem dX8_staggerBehind_46 : decode cX8_staggerBehind 46 = .ok (.istore 6, 2) := by decide +kernel
theorem dX8_staggerBehind_48 : decode cX8_staggerBehind 48 = .ok (.iload 6, 2) := by decide +kernel
theorem dX8_staggerBehind_50 : decode cX8_staggerBehind 50 = .ok (.iload_n 3, 1) := by decide +kernel
theorem dX8_staggerBehind_51 : decode cX8_staggerBehind 51 = .ok (.if_icmp .gt 30, 3) := by decide +kernel
theorem dX8_staggerBehind_54 : decode cX8_staggerBehind 54 = .ok (.aload_n 0, 1) := by decide +kernel
theorem dX8_staggerBehind_55 : decode cX8_staggerBehind 55 = .ok (.iload 5, 2) := by decide +kernel
theorem dX8_staggerBehind_57 : decode cX8_staggerBehind 57 = .ok (.bipush 100, 2) := by decide +kernel
theorem dX8_staggerBehind_59 : decode cX8_staggerBehind 59 = .ok (.imul, 1) := by decide +kernel
theorem dX8_staggerBehind_60 : decode cX8_staggerBehind 60 = .ok (.iload 6, 2) := by decide +kernel
theorem dX8_staggerBehind_62 : decode cX8_staggerBehind 62 = .ok (.iadd, 1) := by decide +kernel
theorem dX8_staggerBehind_63 : decode cX8_staggerBehind 63 = .ok (.aload_n 0, 1) := by decide +kernel
theorem dX8_staggerBehind_64 : decode cX8_staggerBehind 64 = .ok (.iload_n 1, 1) := by decide +kernel
theorem dX8_staggerBehind_65 : decode cX8_staggerBehind 65 = .ok (.iload 4, 2) := by decide +kernel
theorem dX8_staggerBehind_67 : decode cX8_staggerBehind 67 = .ok (.iload 6, 2) := by decide +kernel
theorem dX8_staggerBehind_69 : decode cX8_staggerBehind 69 = .ok (.invokevirtual 128, 3) := by decide +kernel
theorem dX8_staggerBehind_72 : decode cX8_staggerBehind 72 = .ok (.invokevirtual 105, 3) := by decide +kernel
theorem dX8_staggerBehind_75 : decode cX8_staggerBehind 75 = .ok (.iinc 6 1, 3) := by decide +kernel
theorem dX8_staggerBehind_78 : decode cX8_staggerBehind 78 = .ok (.goto (-30), 3) := by decide +kernel
theorem dX8_staggerBehind_81 : decode cX8_staggerBehind 81 = .ok (.iinc 4 1, 3) := by decide +kernel
theorem dX8_staggerBehind_84 : decode cX8_staggerBehind 84 = .ok (.goto (-79), 3) := by decide +kernel
theorem dX8_staggerBehind_87 : decode cX8_staggerBehind 87 = .ok (.return_, 1) := by decide +kernel
theorem dX8_tellSeenWays_0 : decode cX8_tellSeenWays 0 = .ok (.aload_n 0, 1) := by decide +kernel
theorem dX8_tellSeenWays_1 : decode cX8_tellSeenWays 1 = .ok (.getfield 27, 3) := by decide +kernel
theorem dX8_tellSeenWays_4 : decode cX8_tellSeenWays 4 = .ok (.lconst 0, 1) := by decide +kernel
theorem dX8_tellSeenWays_5 : decode cX8_tellSeenWays 5 = .ok (.invokestatic 134, 3) := by decide +kernel
theorem dX8_tellSeenWays_8 : decode cX8_tellSeenWays 8 = .ok (.iload_n 1, 1) := by decide +kernel
theorem dX8_tellSeenWays_9 : decode cX8_tellSeenWays 9 = .ok (.iconst 1, 1) := by decide +kernel
theorem dX8_tellSeenWays_10 : decode cX8_tellSeenWays 10 = .ok (.invokestatic 137, 3) := by decide +kernel
theorem dX8_tellSeenWays_13 : decode cX8_tellSeenWays 13 = .ok (.istore 4, 2) := by decide +kernel
theorem dX8_tellSeenWays_15 : decode cX8_tellSeenWays 15 = .ok (.iload 4, 2) := by decide +kernel
theorem dX8_tellSeenWays_17 : decode cX8_tellSeenWays 17 = .ok (.iload_n 2, 1) := by decide +kernel
theorem dX8_tellSeenWays_18 : decode cX8_tellSeenWays 18 = .ok (.if_icmp .gt 75, 3) := by decide +kernel
theorem dX8_tellSeenWays_21 : decode cX8_tellSeenWays 21 = .ok (.iload 4, 2) := by decide +kernel
theorem dX8_tellSeenWays_23 : decode cX8_tellSeenWays 23 = .ok (.bipush 30, 2) := by decide +kernel
theorem dX8_tellSeenWays_25 : decode cX8_tellSeenWays 25 = .ok (.if_icmp .gt 68, 3) := by decide +kernel
theorem dX8_tellSeenWays_28 : decode cX8_tellSeenWays 28 = .ok (.iconst 1, 1) := by decide +kernel
theorem dX8_tellSeenWays_29 : decode cX8_tellSeenWays 29 = .ok (.istore 5, 2) := by decide +kernel
theorem dX8_tellSeenWays_31 : decode cX8_tellSeenWays 31 = .ok (.iload 5, 2) := by decide +kernel
theorem dX8_tellSeenWays_33 : decode cX8_tellSeenWays 33 = .ok (.iload_n 3, 1) := by decide +kernel
theorem dX8_tellSeenWays_34 : decode cX8_tellSeenWays 34 = .ok (.if_icmp .gt 53, 3) := by decide +kernel
theorem dX8_tellSeenWays_37 : decode cX8_tellSeenWays 37 = .ok (.iload 5, 2) := by decide +kernel
theorem dX8_tellSeenWays_39 : decode cX8_tellSeenWays 39 = .ok (.sipush 300, 3) := by decide +kernel
theorem dX8_tellSeenWays_42 : decode cX8_tellSeenWays 42 = .ok (.if_icmp .gt 45, 3) := by decide +kernel
theorem dX8_tellSeenWays_45 : decode cX8_tellSeenWays 45 = .ok (.aload_n 0, 1) := by decide +kernel
theorem dX8_tellSeenWays_46 : decode cX8_tellSeenWays 46 = .ok (.iload 4, 2) := by decide +kernel
theorem dX8_tellSeenWays_48 : decode cX8_tellSeenWays 48 = .ok (.iload 5, 2) := by decide +kernel
theorem dX8_tellSeenWays_50 : decode cX8_tellSeenWays 50 = .ok (.invokevirtual 81, 3) := by decide +kernel
theorem dX8_tellSeenWays_53 : decode cX8_tellSeenWays 53 = .ok (.ifCond .eq 28, 3) := by decide +kernel
theorem dX8_tellSeenWays_56 : decode cX8_tellSeenWays 56 = .ok (.aload_n 0, 1) := by decide +kernel
theorem dX8_tellSeenWays_57 : decode cX8_tellSeenWays 57 = .ok (.getfield 27, 3) := by decide +kernel
theorem dX8_tellSeenWays_60 : decode cX8_tellSeenWays 60 = .ok (.iload 4, 2) := by decide +kernel
theorem dX8_tellSeenWays_62 : decode cX8_tellSeenWays 62 = .ok (.iconst 5, 1) := by decide +kernel
theorem dX8_tellSeenWays_63 : decode cX8_tellSeenWays 63 = .ok (.imul, 1) := by decide +kernel
theorem dX8_tellSeenWays_64 : decode cX8_tellSeenWays 64 = .ok (.iload 5, 2) := by decide +kernel
theorem dX8_tellSeenWays_66 : decode cX8_tellSeenWays 66 = .ok (.bipush 6, 2) := by decide +kernel
theorem dX8_tellSeenWays_68 : decode cX8_tellSeenWays 68 = .ok (.ishr, 1) := by decide +kernel
theorem dX8_tellSeenWays_69 : decode cX8_tellSeenWays 69 = .ok (.iadd, 1) := by decide +kernel
theorem dX8_tellSeenWays_70 : decode cX8_tellSeenWays 70 = .ok (.dup2, 1) := by decide +kernel
theorem dX8_tellSeenWays_71 : decode cX8_tellSeenWays 71 = .ok (.laload, 1) := by decide +kernel
theorem dX8_tellSeenWays_72 : decode cX8_tellSeenWays 72 = .ok (.lconst 1, 1) := by decide +kernel
theorem dX8_tellSeenWays_73 : decode cX8_tellSeenWays 73 = .ok (.iload 5, 2) := by decide +kernel
theorem dX8_tellSeenWays_75 : decode cX8_tellSeenWays 75 = .ok (.bipush 63, 2) := by decide +kernel
theorem dX8_tellSeenWays_77 : decode cX8_tellSeenWays 77 = .ok (.iand, 1) := by decide +kernel
theorem dX8_tellSeenWays_78 : decode cX8_tellSeenWays 78 = .ok (.lshl, 1) := by decide +kernel
theorem dX8_tellSeenWays_79 : decode cX8_tellSeenWays 79 = .ok (.lor, 1) := by decide +kernel
theorem dX8_tellSeenWays_80 : decode cX8_tellSeenWays 80 = .ok (.lastore, 1) := by decide +kernel
theorem dX8_tellSeenWays_81 : decode cX8_tellSeenWays 81 = .ok (.iinc 5 1, 3) := by decide +kernel
theorem dX8_tellSeenWays_84 : decode cX8_tellSeenWays 84 = .ok (.goto (-53), 3) := by decide +kernel
theorem dX8_tellSeenWays_87 : decode cX8_tellSeenWays 87 = .ok (.iinc 4 1, 3) := by decide +kernel
theorem dX8_tellSeenWays_90 : decode cX8_tellSeenWays 90 = .ok (.goto (-75), 3) := by decide +kernel
theorem dX8_tellSeenWays_93 : decode cX8_tellSeenWays 93 = .ok (.return_, 1) := by decide +kernel
theorem dX8_seenByThree_0 : decode cX8_seenByThree 0 = .ok (.iconst 0, 1) := by decide +kernel
theorem dX8_seenByThree_1 : decode cX8_seenByThree 1 = .ok (.istore 4, 2) := by decide +kernel
theorem dX8_seenByThree_3 : decode cX8_seenByThree 3 = .ok (.iconst 0, 1) := by decide +kernel
theorem dX8_seenByThree_4 : decode cX8_seenByThree 4 = .ok (.istore 5, 2) := by decide +kernel
theorem dX8_seenByThree_6 : decode cX8_seenByThree 6 = .ok (.iload 5, 2) := by decide +kernel
theorem dX8_seenByThree_8 : decode cX8_seenByThree 8 = .ok (.iconst 5, 1) := by decide +kernel
theorem dX8_seenByThree_9 : decode cX8_seenByThree 9 = .ok (.if_icmp .ge 129, 3) := by decide +kernel
theorem dX8_seenByThree_12 : decode cX8_seenByThree 12 = .ok (.aload_n 0, 1) := by decide +kernel
theorem dX8_seenByThree_13 : decode cX8_seenByThree 13 = .ok (.iload_n 1, 1) := by decide +kernel
theorem dX8_seenByThree_14 : decode cX8_seenByThree 14 = .ok (.iload 5, 2) := by decide +kernel
theorem dX8_seenByThree_16 : decode cX8_seenByThree 16 = .ok (.invokevirtual 140, 3) := by decide +kernel
theorem dX8_seenByThree_19 : decode cX8_seenByThree 19 = .ok (.lstore 6, 2) := by decide +kernel
theorem dX8_seenByThree_21 : decode cX8_seenByThree 21 = .ok (.aload_n 0, 1) := by decide +kernel
theorem dX8_seenByThree_22 : decode cX8_seenByThree 22 = .ok (.iload_n 2, 1) := by decide +kernel
theorem dX8_seenByThree_23 : decode cX8_seenByThree 23 = .ok (.iload 5, 2) := by decide +kernel
theorem dX8_seenByThree_25 : decode cX8_seenByThree 25 = .ok (.invokevirtual 140, 3) := by decide +kernel
theorem dX8_seenByThree_28 : decode cX8_seenByThree 28 = .ok (.lstore 8, 2) := by decide +kernel
theorem dX8_seenByThree_30 : decode cX8_seenByThree 30 = .ok (.aload_n 0, 1) := by decide +kernel
theorem dX8_seenByThree_31 : decode cX8_seenByThree 31 = .ok (.iload_n 3, 1) := by decide +kernel
theorem dX8_seenByThree_32 : decode cX8_seenByThree 32 = .ok (.iload 5, 2) := by decide +kernel
theorem dX8_seenByThree_34 : decode cX8_seenByThree 34 = .ok (.invokevirtual 140, 3) := by decide +kernel
theorem dX8_seenByThree_37 : decode cX8_seenByThree 37 = .ok (.lstore 10, 2) := by decide +kernel
theorem dX8_seenByThree_39 : decode cX8_seenByThree 39 = .ok (.aload_n 0, 1) := by decide +kernel
theorem dX8_seenByThree_40 : decode cX8_seenByThree 40 = .ok (.getfield 9, 3) := by decide +kernel
theorem dX8_seenByThree_43 : decode cX8_seenByThree 43 = .ok (.iconst 1, 1) := by decide +kernel
theorem dX8_seenByThree_44 : decode cX8_seenByThree 44 = .ok (.iaload, 1) := by decide +kernel
theorem dX8_seenByThree_45 : decode cX8_seenByThree 45 = .ok (.iconst 1, 1) := by decide +kernel
theorem dX8_seenByThree_46 : decode cX8_seenByThree 46 = .ok (.if_icmp .ne 22, 3) := by decide +kernel
theorem dX8_seenByThree_49 : decode cX8_seenByThree 49 = .ok (.iload 4, 2) := by decide +kernel
theorem dX8_seenByThree_51 : decode cX8_seenByThree 51 = .ok (.lload 6, 2) := by decide +kernel
theorem dX8_seenByThree_53 : decode cX8_seenByThree 53 = .ok (.lload 8, 2) := by decide +kernel
theorem dX8_seenByThree_55 : decode cX8_seenByThree 55 = .ok (.lor, 1) := by decide +kernel
theorem dX8_seenByThree_56 : decode cX8_seenByThree 56 = .ok (.lload 10, 2) := by decide +kernel
theorem dX8_seenByThree_58 : decode cX8_seenByThree 58 = .ok (.lor, 1) := by decide +kernel
theorem dX8_seenByThree_59 : decode cX8_seenByThree 59 = .ok (.invokestatic 144, 3) := by decide +kernel
theorem dX8_seenByThree_62 : decode cX8_seenByThree 62 = .ok (.iadd, 1) := by decide +kernel
theorem dX8_seenByThree_63 : decode cX8_seenByThree 63 = .ok (.istore 4, 2) := by decide +kernel
theorem dX8_seenByThree_65 : decode cX8_seenByThree 65 = .ok (.goto 67, 3) := by decide +kernel
theorem dX8_seenByThree_68 : decode cX8_seenByThree 68 = .ok (.aload_n 0, 1) := by decide +kernel
theorem dX8_seenByThree_69 : decode cX8_seenByThree 69 = .ok (.getfield 9, 3) := by decide +kernel
theorem dX8_seenByThree_72 : decode cX8_seenByThree 72 = .ok (.iconst 1, 1) := by decide +kernel
theorem dX8_seenByThree_73 : decode cX8_seenByThree 73 = .ok (.iaload, 1) := by decide +kernel
theorem dX8_seenByThree_74 : decode cX8_seenByThree 74 = .ok (.iconst 2, 1) := by decide +kernel
theorem dX8_seenByThree_75 : decode cX8_seenByThree 75 = .ok (.if_icmp .ne 31, 3) := by decide +kernel
theorem dX8_seenByThree_78 : decode cX8_seenByThree 78 = .ok (.iload 4, 2) := by decide +kernel
theorem dX8_seenByThree_80 : decode cX8_seenByThree 80 = .ok (.lload 6, 2) := by decide +kernel
theorem dX8_seenByThree_82 : decode cX8_seenByThree 82 = .ok (.lload 8, 2) := by decide +kernel
theorem dX8_seenByThree_84 : decode cX8_seenByThree 84 = .ok (.land, 1) := by decide +kernel
theorem dX8_seenByThree_85 : decode cX8_seenByThree 85 = .ok (.lload 6, 2) := by decide +kernel
theorem dX8_seenByThree_87 : decode cX8_seenByThree 87 = .ok (.lload 10, 2) := by decide +kernel
theorem dX8_seenByThree_89 : decode cX8_seenByThree 89 = .ok (.land, 1) := by decide +kernel
theorem dX8_seenByThree_90 : decode cX8_seenByThree 90 = .ok (.lor, 1) := by decide +kernel
theorem dX8_seenByThree_91 : decode cX8_seenByThree 91 = .ok (.lload 8, 2) := by decide +kernel
theorem dX8_seenByThree_93 : decode cX8_seenByThree 93 = .ok (.lload 10, 2) := by decide +kernel
theorem dX8_seenByThree_95 : decode cX8_seenByThree 95 = .ok (.land, 1) := by decide +kernel
theorem dX8_seenByThree_96 : decode cX8_seenByThree 96 = .ok (.lor, 1) := by decide +kernel
theorem dX8_seenByThree_97 : decode cX8_seenByThree 97 = .ok (.invokestatic 144, 3) := by decide +kernel
theorem dX8_seenByThree_100 : decode cX8_seenByThree 100 = .ok (.iadd, 1) := by decide +kernel
theorem dX8_seenByThree_101 : decode cX8_seenByThree 101 = .ok (.istore 4, 2) := by decide +kernel
theorem dX8_seenByThree_103 : decode cX8_seenByThree 103 = .ok (.goto 29, 3) := by decide +kernel
theorem dX8_seenByThree_106 : decode cX8_seenByThree 106 = .ok (.aload_n 0, 1) := by decide +kernel
theorem dX8_seenByThree_107 : decode cX8_seenByThree 107 = .ok (.getfield 9, 3) := by decide +kernel
theorem dX8_seenByThree_110 : decode cX8_seenByThree 110 = .ok (.iconst 1, 1) := by decide +kernel
theorem dX8_seenByThree_111 : decode cX8_seenByThree 111 = .ok (.iaload, 1) := by decide +kernel
theorem dX8_seenByThree_112 : decode cX8_seenByThree 112 = .ok (.iconst 3, 1) := by decide +kernel
theorem dX8_seenByThree_113 : decode cX8_seenByThree 113 = .ok (.if_icmp .ne 19, 3) := by decide +kernel
theorem dX8_seenByThree_116 : decode cX8_seenByThree 116 = .ok (.iload 4, 2) := by decide +kernel
theorem dX8_seenByThree_118 : decode cX8_seenByThree 118 = .ok (.lload 6, 2) := by decide +kernel
theorem dX8_seenByThree_120 : decode cX8_seenByThree 120 = .ok (.lload 8, 2) := by decide +kernel
theorem dX8_seenByThree_122 : decode cX8_seenByThree 122 = .ok (.land, 1) := by decide +kernel
theorem dX8_seenByThree_123 : decode cX8_seenByThree 123 = .ok (.lload 10, 2) := by decide +kernel
theorem dX8_seenByThree_125 : decode cX8_seenByThree 125 = .ok (.land, 1) := by decide +kernel
theorem dX8_seenByThree_126 : decode cX8_seenByThree 126 = .ok (.invokestatic 144, 3) := by decide +kernel
theorem dX8_seenByThree_129 : decode cX8_seenByThree 129 = .ok (.iadd, 1) := by decide +kernel
theorem dX8_seenByThree_130 : decode cX8_seenByThree 130 = .ok (.istore 4, 2) := by decide +kernel
theorem dX8_seenByThree_132 : decode cX8_seenByThree 132 = .ok (.iinc 5 1, 3) := by decide +kernel
theorem dX8_seenByThree_135 : decode cX8_seenByThree 135 = .ok (.goto (-129), 3) := by decide +kernel
theorem dX8_seenByThree_138 : decode cX8_seenByThree 138 = .ok (.iload 4, 2) := by decide +kernel
theorem dX8_seenByThree_140 : decode cX8_seenByThree 140 = .ok (.ireturn, 1) := by decide +kernel
theorem dX8_waysOf_0 : decode cX8_waysOf 0 = .ok (.iload_n 1, 1) := by decide +kernel
theorem dX8_waysOf_1 : decode cX8_waysOf 1 = .ok (.iconst 5, 1) := by decide +kernel
theorem dX8_waysOf_2 : decode cX8_waysOf 2 = .ok (.imul, 1) := by decide +kernel
theorem dX8_waysOf_3 : decode cX8_waysOf 3 = .ok (.iload_n 2, 1) := by decide +kernel
theorem dX8_waysOf_4 : decode cX8_waysOf 4 = .ok (.iadd, 1) := by decide +kernel
theorem dX8_waysOf_5 : decode cX8_waysOf 5 = .ok (.istore_n 3, 1) := by decide +kernel
theorem dX8_waysOf_6 : decode cX8_waysOf 6 = .ok (.iload_n 3, 1) := by decide +kernel
theorem dX8_waysOf_7 : decode cX8_waysOf 7 = .ok (.ifCond .lt 21, 3) := by decide +kernel
theorem dX8_waysOf_10 : decode cX8_waysOf 10 = .ok (.iload_n 3, 1) := by decide +kernel
theorem dX8_waysOf_11 : decode cX8_waysOf 11 = .ok (.aload_n 0, 1) := by decide +kernel
theorem dX8_waysOf_12 : decode cX8_waysOf 12 = .ok (.getfield 27, 3) := by decide +kernel
theorem dX8_waysOf_15 : decode cX8_waysOf 15 = .ok (.arraylength, 1) := by decide +kernel
theorem dX8_waysOf_16 : decode cX8_waysOf 16 = .ok (.if_icmp .ge 12, 3) := by decide +kernel
theorem dX8_waysOf_19 : decode cX8_waysOf 19 = .ok (.aload_n 0, 1) := by decide +kernel
theorem dX8_waysOf_20 : decode cX8_waysOf 20 = .ok (.getfield 27, 3) := by decide +kernel
theorem dX8_waysOf_23 : decode cX8_waysOf 23 = .ok (.iload_n 3, 1) := by decide +kernel
theorem dX8_waysOf_24 : decode cX8_waysOf 24 = .ok (.laload, 1) := by decide +kernel
theorem dX8_waysOf_25 : decode cX8_waysOf 25 = .ok (.goto 4, 3) := by decide +kernel
theorem dX8_waysOf_28 : decode cX8_waysOf 28 = .ok (.lconst 0, 1) := by decide +kernel
theorem dX8_waysOf_29 : decode cX8_waysOf 29 = .ok (.lreturn, 1) := by decide +kernel
theorem dX9_init_0 : decode cX9_init 0 = .ok (.aload_n 0, 1) := by decide +kernel
theorem dX9_init_1 : decode cX9_init 1 = .ok (.invokespecial 3, 3) := by decide +kernel
theorem dX9_init_4 : decode cX9_init 4 = .ok (.aload_n 0, 1) := by decide +kernel
theorem dX9_init_5 : decode cX9_init 5 = .ok (.bipush 9, 2) := by decide +kernel
theorem dX9_init_7 : decode cX9_init 7 = .ok (.newarray .long, 2) := by decide +kernel
theorem dX9_init_9 : decode cX9_init 9 = .ok (.putfield 11, 3) := by decide +kernel
theorem dX9_init_12 : decode cX9_init 12 = .ok (.return_, 1) := by decide +kernel
theorem dX9_areBounds_0 : decode cX9_areBounds 0 = .ok (.iload_n 0, 1) := by decide +kernel
theorem dX9_areBounds_1 : decode cX9_areBounds 1 = .ok (.iconst 1, 1) := by decide +kernel
theorem dX9_areBounds_2 : decode cX9_areBounds 2 = .ok (.bipush 8, 2) := by decide +kernel
theorem dX9_areBounds_4 : decode cX9_areBounds 4 = .ok (.invokestatic 15, 3) := by decide +kernel
theorem dX9_areBounds_7 : decode cX9_areBounds 7 = .ok (.ifCond .eq 26, 3) := by decide +kernel
theorem dX9_areBounds_10 : decode cX9_areBounds 10 = .ok (.iload_n 1, 1) := by decide +kernel
theorem dX9_areBounds_11 : decode cX9_areBounds 11 = .ok (.iconst 1, 1) := by decide +kernel
theorem dX9_areBounds_12 : decode cX9_areBounds 12 = .ok (.bipush 9, 2) := by decide +kernel
theorem dX9_areBounds_14 : decode cX9_areBounds 14 = .ok (.invokestatic 15, 3) := by decide +kernel
theorem dX9_areBounds_17 : decode cX9_areBounds 17 = .ok (.ifCond .eq 16, 3) := by decide +kernel
theorem dX9_areBounds_20 : decode cX9_areBounds 20 = .ok (.iload_n 2, 1) := by decide +kernel
theorem dX9_areBounds_21 : decode cX9_areBounds 21 = .ok (.iconst 1, 1) := by decide +kernel
theorem dX9_areBounds_22 : decode cX9_areBounds 22 = .ok (.iload_n 0, 1) := by decide +kernel
theorem dX9_areBounds_23 : decode cX9_areBounds 23 = .ok (.invokestatic 15, 3) := by decide +kernel
theorem dX9_areBounds_26 : decode cX9_areBounds 26 = .ok (.ifCond .eq 7, 3) := by decide +kernel
theorem dX9_areBounds_29 : decode cX9_areBounds 29 = .ok (.iconst 1, 1) := by decide +kernel
theorem dX9_areBounds_30 : decode cX9_areBounds 30 = .ok (.goto 4, 3) := by decide +kernel
theorem dX9_areBounds_33 : decode cX9_areBounds 33 = .ok (.iconst 0, 1) := by decide +kernel
theorem dX9_areBounds_34 : decode cX9_areBounds 34 = .ok (.ireturn, 1) := by decide +kernel
theorem dX9_learn_0 : decode cX9_learn 0 = .ok (.aload_n 0, 1) := by decide +kernel
theorem dX9_learn_1 : decode cX9_learn 1 = .ok (.iload_n 2, 1) := by decide +kernel
theorem dX9_learn_2 : decode cX9_learn 2 = .ok (.bipush 9, 2) := by decide +kernel
theorem dX9_learn_4 : decode cX9_learn 4 = .ok (.invokestatic 19, 3) := by decide +kernel
theorem dX9_learn_7 : decode cX9_learn 7 = .ok (.putfield 25, 3) := by decide +kernel
theorem dX9_learn_10 : decode cX9_learn 10 = .ok (.aload_n 0, 1) := by decide +kernel
