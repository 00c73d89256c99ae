theorem dX9_learn_11 : decode cX9_learn 11 = .ok (.aload_n 0, 1) := by decide +kernel
theorem dX9_learn_12 : decode cX9_learn 12 = .ok (.getfield 25, 3) := by decide +kernel
theorem dX9_learn_15 : decode cX9_learn 15 = .ok (.iload_n 1, 1) := by decide +kernel
theorem dX9_learn_16 : decode cX9_learn 16 = .ok (.iconst 1, 1) := by decide +kernel
theorem dX9_learn_17 : decode cX9_learn 17 = .ok (.iadd, 1) := by decide +kernel
theorem dX9_learn_18 : decode cX9_learn 18 = .ok (.invokestatic 29, 3) := by decide +kernel
theorem dX9_learn_21 : decode cX9_learn 21 = .ok (.putfield 33, 3) := by decide +kernel
theorem dX9_learn_24 : decode cX9_learn 24 = .ok (.lconst 0, 1) := by decide +kernel
theorem dX9_learn_25 : decode cX9_learn 25 = .ok (.lstore 4, 2) := by decide +kernel
theorem dX9_learn_27 : decode cX9_learn 27 = .ok (.iconst 0, 1) := by decide +kernel
theorem dX9_learn_28 : decode cX9_learn 28 = .ok (.istore 6, 2) := by decide +kernel
theorem dX9_learn_30 : decode cX9_learn 30 = .ok (.iload 6, 2) := by decide +kernel
theorem dX9_learn_32 : decode cX9_learn 32 = .ok (.aload_n 0, 1) := by decide +kernel
theorem dX9_learn_33 : decode cX9_learn 33 = .ok (.getfield 25, 3) := by decide +kernel
theorem dX9_learn_36 : decode cX9_learn 36 = .ok (.if_icmp .ge 35, 3) := by decide +kernel
theorem dX9_learn_39 : decode cX9_learn 39 = .ok (.aload_n 0, 1) := by decide +kernel
theorem dX9_learn_40 : decode cX9_learn 40 = .ok (.iload_n 1, 1) := by decide +kernel
theorem dX9_learn_41 : decode cX9_learn 41 = .ok (.iload_n 3, 1) := by decide +kernel
theorem dX9_learn_42 : decode cX9_learn 42 = .ok (.iload 6, 2) := by decide +kernel
theorem dX9_learn_44 : decode cX9_learn 44 = .ok (.invokevirtual 37, 3) := by decide +kernel
theorem dX9_learn_47 : decode cX9_learn 47 = .ok (.lstore 7, 2) := by decide +kernel
theorem dX9_learn_49 : decode cX9_learn 49 = .ok (.aload_n 0, 1) := by decide +kernel
theorem dX9_learn_50 : decode cX9_learn 50 = .ok (.getfield 11, 3) := by decide +kernel
theorem dX9_learn_53 : decode cX9_learn 53 = .ok (.iload 6, 2) := by decide +kernel
theorem dX9_learn_55 : decode cX9_learn 55 = .ok (.lload 7, 2) := by decide +kernel
theorem dX9_learn_57 : decode cX9_learn 57 = .ok (.lload 4, 2) := by decide +kernel
theorem dX9_learn_59 : decode cX9_learn 59 = .ok (.lsub, 1) := by decide +kernel
theorem dX9_learn_60 : decode cX9_learn 60 = .ok (.lastore, 1) := by decide +kernel
theorem dX9_learn_61 : decode cX9_learn 61 = .ok (.lload 7, 2) := by decide +kernel
theorem dX9_learn_63 : decode cX9_learn 63 = .ok (.lstore 4, 2) := by decide +kernel
theorem dX9_learn_65 : decode cX9_learn 65 = .ok (.iinc 6 1, 3) := by decide +kernel
theorem dX9_learn_68 : decode cX9_learn 68 = .ok (.goto (-38), 3) := by decide +kernel
theorem dX9_learn_71 : decode cX9_learn 71 = .ok (.return_, 1) := by decide +kernel
theorem dX9_rowsUpTo_0 : decode cX9_rowsUpTo 0 = .ok (.lconst 0, 1) := by decide +kernel
theorem dX9_rowsUpTo_1 : decode cX9_rowsUpTo 1 = .ok (.lstore 4, 2) := by decide +kernel
theorem dX9_rowsUpTo_3 : decode cX9_rowsUpTo 3 = .ok (.iload_n 2, 1) := by decide +kernel
theorem dX9_rowsUpTo_4 : decode cX9_rowsUpTo 4 = .ok (.istore 6, 2) := by decide +kernel
theorem dX9_rowsUpTo_6 : decode cX9_rowsUpTo 6 = .ok (.iload 6, 2) := by decide +kernel
theorem dX9_rowsUpTo_8 : decode cX9_rowsUpTo 8 = .ok (.iload_n 1, 1) := by decide +kernel
theorem dX9_rowsUpTo_9 : decode cX9_rowsUpTo 9 = .ok (.if_icmp .gt 45, 3) := by decide +kernel
theorem dX9_rowsUpTo_12 : decode cX9_rowsUpTo 12 = .ok (.lload 4, 2) := by decide +kernel
theorem dX9_rowsUpTo_14 : decode cX9_rowsUpTo 14 = .ok (.iload_n 1, 1) := by decide +kernel
theorem dX9_rowsUpTo_15 : decode cX9_rowsUpTo 15 = .ok (.iload 6, 2) := by decide +kernel
theorem dX9_rowsUpTo_17 : decode cX9_rowsUpTo 17 = .ok (.invokestatic 41, 3) := by decide +kernel
theorem dX9_rowsUpTo_20 : decode cX9_rowsUpTo 20 = .ok (.iload_n 3, 1) := by decide +kernel
theorem dX9_rowsUpTo_21 : decode cX9_rowsUpTo 21 = .ok (.iconst 1, 1) := by decide +kernel
theorem dX9_rowsUpTo_22 : decode cX9_rowsUpTo 22 = .ok (.iadd, 1) := by decide +kernel
theorem dX9_rowsUpTo_23 : decode cX9_rowsUpTo 23 = .ok (.iload 6, 2) := by decide +kernel
theorem dX9_rowsUpTo_25 : decode cX9_rowsUpTo 25 = .ok (.invokestatic 29, 3) := by decide +kernel
theorem dX9_rowsUpTo_28 : decode cX9_rowsUpTo 28 = .ok (.lmul, 1) := by decide +kernel
theorem dX9_rowsUpTo_29 : decode cX9_rowsUpTo 29 = .ok (.aload_n 0, 1) := by decide +kernel
theorem dX9_rowsUpTo_30 : decode cX9_rowsUpTo 30 = .ok (.getfield 25, 3) := by decide +kernel
theorem dX9_rowsUpTo_33 : decode cX9_rowsUpTo 33 = .ok (.iconst 1, 1) := by decide +kernel
theorem dX9_rowsUpTo_34 : decode cX9_rowsUpTo 34 = .ok (.isub, 1) := by decide +kernel
theorem dX9_rowsUpTo_35 : decode cX9_rowsUpTo 35 = .ok (.iload_n 3, 1) := by decide +kernel
theorem dX9_rowsUpTo_36 : decode cX9_rowsUpTo 36 = .ok (.isub, 1) := by decide +kernel
theorem dX9_rowsUpTo_37 : decode cX9_rowsUpTo 37 = .ok (.iload_n 1, 1) := by decide +kernel
theorem dX9_rowsUpTo_38 : decode cX9_rowsUpTo 38 = .ok (.iload 6, 2) := by decide +kernel
theorem dX9_rowsUpTo_40 : decode cX9_rowsUpTo 40 = .ok (.isub, 1) := by decide +kernel
theorem dX9_rowsUpTo_41 : decode cX9_rowsUpTo 41 = .ok (.invokestatic 29, 3) := by decide +kernel
theorem dX9_rowsUpTo_44 : decode cX9_rowsUpTo 44 = .ok (.lmul, 1) := by decide +kernel
theorem dX9_rowsUpTo_45 : decode cX9_rowsUpTo 45 = .ok (.ladd, 1) := by decide +kernel
theorem dX9_rowsUpTo_46 : decode cX9_rowsUpTo 46 = .ok (.lstore 4, 2) := by decide +kernel
theorem dX9_rowsUpTo_48 : decode cX9_rowsUpTo 48 = .ok (.iinc 6 1, 3) := by decide +kernel
theorem dX9_rowsUpTo_51 : decode cX9_rowsUpTo 51 = .ok (.goto (-45), 3) := by decide +kernel
theorem dX9_rowsUpTo_54 : decode cX9_rowsUpTo 54 = .ok (.lload 4, 2) := by decide +kernel
theorem dX9_rowsUpTo_56 : decode cX9_rowsUpTo 56 = .ok (.lreturn, 1) := by decide +kernel
theorem dX9_choices_0 : decode cX9_choices 0 = .ok (.lconst 1, 1) := by decide +kernel
theorem dX9_choices_1 : decode cX9_choices 1 = .ok (.lstore_n 2, 1) := by decide +kernel
theorem dX9_choices_2 : decode cX9_choices 2 = .ok (.iconst 1, 1) := by decide +kernel
theorem dX9_choices_3 : decode cX9_choices 3 = .ok (.istore 4, 2) := by decide +kernel
theorem dX9_choices_5 : decode cX9_choices 5 = .ok (.iload 4, 2) := by decide +kernel
theorem dX9_choices_7 : decode cX9_choices 7 = .ok (.iload_n 1, 1) := by decide +kernel
theorem dX9_choices_8 : decode cX9_choices 8 = .ok (.if_icmp .gt 23, 3) := by decide +kernel
theorem dX9_choices_11 : decode cX9_choices 11 = .ok (.lload_n 2, 1) := by decide +kernel
theorem dX9_choices_12 : decode cX9_choices 12 = .ok (.iload_n 0, 1) := by decide +kernel
theorem dX9_choices_13 : decode cX9_choices 13 = .ok (.iload 4, 2) := by decide +kernel
theorem dX9_choices_15 : decode cX9_choices 15 = .ok (.isub, 1) := by decide +kernel
theorem dX9_choices_16 : decode cX9_choices 16 = .ok (.iconst 1, 1) := by decide +kernel
theorem dX9_choices_17 : decode cX9_choices 17 = .ok (.iadd, 1) := by decide +kernel
theorem dX9_choices_18 : decode cX9_choices 18 = .ok (.i2l, 1) := by decide +kernel
theorem dX9_choices_19 : decode cX9_choices 19 = .ok (.lmul, 1) := by decide +kernel
theorem dX9_choices_20 : decode cX9_choices 20 = .ok (.iload 4, 2) := by decide +kernel
theorem dX9_choices_22 : decode cX9_choices 22 = .ok (.i2l, 1) := by decide +kernel
theorem dX9_choices_23 : decode cX9_choices 23 = .ok (.ldiv, 1) := by decide +kernel
theorem dX9_choices_24 : decode cX9_choices 24 = .ok (.lstore_n 2, 1) := by decide +kernel
theorem dX9_choices_25 : decode cX9_choices 25 = .ok (.iinc 4 1, 3) := by decide +kernel
theorem dX9_choices_28 : decode cX9_choices 28 = .ok (.goto (-23), 3) := by decide +kernel
theorem dX9_choices_31 : decode cX9_choices 31 = .ok (.lload_n 2, 1) := by decide +kernel
theorem dX9_choices_32 : decode cX9_choices 32 = .ok (.lreturn, 1) := by decide +kernel
theorem dX9_power_0 : decode cX9_power 0 = .ok (.lconst 1, 1) := by decide +kernel
theorem dX9_power_1 : decode cX9_power 1 = .ok (.lstore_n 2, 1) := by decide +kernel
theorem dX9_power_2 : decode cX9_power 2 = .ok (.iconst 0, 1) := by decide +kernel
theorem dX9_power_3 : decode cX9_power 3 = .ok (.istore 4, 2) := by decide +kernel
theorem dX9_power_5 : decode cX9_power 5 = .ok (.iload 4, 2) := by decide +kernel
theorem dX9_power_7 : decode cX9_power 7 = .ok (.iload_n 1, 1) := by decide +kernel
theorem dX9_power_8 : decode cX9_power 8 = .ok (.if_icmp .ge 14, 3) := by decide +kernel
theorem dX9_power_11 : decode cX9_power 11 = .ok (.lload_n 2, 1) := by decide +kernel
theorem dX9_power_12 : decode cX9_power 12 = .ok (.iload_n 0, 1) := by decide +kernel
theorem dX9_power_13 : decode cX9_power 13 = .ok (.i2l, 1) := by decide +kernel
theorem dX9_power_14 : decode cX9_power 14 = .ok (.lmul, 1) := by decide +kernel
theorem dX9_power_15 : decode cX9_power 15 = .ok (.lstore_n 2, 1) := by decide +kernel
theorem dX9_power_16 : decode cX9_power 16 = .ok (.iinc 4 1, 3) := by decide +kernel
theorem dX9_power_19 : decode cX9_power 19 = .ok (.goto (-14), 3) := by decide +kernel
theorem dX9_power_22 : decode cX9_power 22 = .ok (.lload_n 2, 1) := by decide +kernel
theorem dX9_power_23 : decode cX9_power 23 = .ok (.lreturn, 1) := by decide +kernel
theorem dX9_rowsAbove_0 : decode cX9_rowsAbove 0 = .ok (.lconst 0, 1) := by decide +kernel
theorem dX9_rowsAbove_1 : decode cX9_rowsAbove 1 = .ok (.lstore_n 2, 1) := by decide +kernel
theorem dX9_rowsAbove_2 : decode cX9_rowsAbove 2 = .ok (.iconst 0, 1) := by decide +kernel
theorem dX9_rowsAbove_3 : decode cX9_rowsAbove 3 = .ok (.istore 4, 2) := by decide +kernel
theorem dX9_rowsAbove_5 : decode cX9_rowsAbove 5 = .ok (.iload 4, 2) := by decide +kernel
theorem dX9_rowsAbove_7 : decode cX9_rowsAbove 7 = .ok (.aload_n 0, 1) := by decide +kernel
theorem dX9_rowsAbove_8 : decode cX9_rowsAbove 8 = .ok (.getfield 25, 3) := by decide +kernel
theorem dX9_rowsAbove_11 : decode cX9_rowsAbove 11 = .ok (.if_icmp .ge 43, 3) := by decide +kernel
theorem dX9_rowsAbove_14 : decode cX9_rowsAbove 14 = .ok (.iconst 0, 1) := by decide +kernel
theorem dX9_rowsAbove_15 : decode cX9_rowsAbove 15 = .ok (.aload_n 0, 1) := by decide +kernel
theorem dX9_rowsAbove_16 : decode cX9_rowsAbove 16 = .ok (.getfield 25, 3) := by decide +kernel
theorem dX9_rowsAbove_19 : decode cX9_rowsAbove 19 = .ok (.iconst 1, 1) := by decide +kernel
theorem dX9_rowsAbove_20 : decode cX9_rowsAbove 20 = .ok (.isub, 1) := by decide +kernel
theorem dX9_rowsAbove_21 : decode cX9_rowsAbove 21 = .ok (.iload_n 1, 1) := by decide +kernel
theorem dX9_rowsAbove_22 : decode cX9_rowsAbove 22 = .ok (.iload 4, 2) := by decide +kernel
theorem dX9_rowsAbove_24 : decode cX9_rowsAbove 24 = .ok (.imul, 1) := by decide +kernel
theorem dX9_rowsAbove_25 : decode cX9_rowsAbove 25 = .ok (.bipush 10, 2) := by decide +kernel
theorem dX9_rowsAbove_27 : decode cX9_rowsAbove 27 = .ok (.idiv, 1) := by decide +kernel
theorem dX9_rowsAbove_28 : decode cX9_rowsAbove 28 = .ok (.isub, 1) := by decide +kernel
theorem dX9_rowsAbove_29 : decode cX9_rowsAbove 29 = .ok (.invokestatic 44, 3) := by decide +kernel
theorem dX9_rowsAbove_32 : decode cX9_rowsAbove 32 = .ok (.istore 5, 2) := by decide +kernel
theorem dX9_rowsAbove_34 : decode cX9_rowsAbove 34 = .ok (.lload_n 2, 1) := by decide +kernel
theorem dX9_rowsAbove_35 : decode cX9_rowsAbove 35 = .ok (.aload_n 0, 1) := by decide +kernel
theorem dX9_rowsAbove_36 : decode cX9_rowsAbove 36 = .ok (.getfield 11, 3) := by decide +kernel
theorem dX9_rowsAbove_39 : decode cX9_rowsAbove 39 = .ok (.iload 4, 2) := by decide +kernel
theorem dX9_rowsAbove_41 : decode cX9_rowsAbove 41 = .ok (.laload, 1) := by decide +kernel
theorem dX9_rowsAbove_42 : decode cX9_rowsAbove 42 = .ok (.iload 5, 2) := by decide +kernel
theorem dX9_rowsAbove_44 : decode cX9_rowsAbove 44 = .ok (.i2l, 1) := by decide +kernel
theorem dX9_rowsAbove_45 : decode cX9_rowsAbove 45 = .ok (.lmul, 1) := by decide +kernel
theorem dX9_rowsAbove_46 : decode cX9_rowsAbove 46 = .ok (.ladd, 1) := by decide +kernel
theorem dX9_rowsAbove_47 : decode cX9_rowsAbove 47 = .ok (.lstore_n 2, 1) := by decide +kernel
theorem dX9_rowsAbove_48 : decode cX9_rowsAbove 48 = .ok (.iinc 4 1, 3) := by decide +kernel
theorem dX9_rowsAbove_51 : decode cX9_rowsAbove 51 = .ok (.goto (-46), 3) := by decide +kernel
theorem dX9_rowsAbove_54 : decode cX9_rowsAbove 54 = .ok (.lload_n 2, 1) := by decide +kernel
theorem dX9_rowsAbove_55 : decode cX9_rowsAbove 55 = .ok (.lreturn, 1) := by decide +kernel
theorem dX9_partsAbove_0 : decode cX9_partsAbove 0 = .ok (.aload_n 0, 1) := by decide +kernel
theorem dX9_partsAbove_1 : decode cX9_partsAbove 1 = .ok (.getfield 33, 3) := by decide +kernel
theorem dX9_partsAbove_4 : decode cX9_partsAbove 4 = .ok (.lconst 0, 1) := by decide +kernel
theorem dX9_partsAbove_5 : decode cX9_partsAbove 5 = .ok (.lcmp, 1) := by decide +kernel
theorem dX9_partsAbove_6 : decode cX9_partsAbove 6 = .ok (.ifCond .le 20, 3) := by decide +kernel
theorem dX9_partsAbove_9 : decode cX9_partsAbove 9 = .ok (.ldc2_w 47, 3) := by decide +kernel
theorem dX9_partsAbove_12 : decode cX9_partsAbove 12 = .ok (.aload_n 0, 1) := by decide +kernel
theorem dX9_partsAbove_13 : decode cX9_partsAbove 13 = .ok (.iload_n 1, 1) := by decide +kernel
theorem dX9_partsAbove_14 : decode cX9_partsAbove 14 = .ok (.invokevirtual 49, 3) := by decide +kernel
theorem dX9_partsAbove_17 : decode cX9_partsAbove 17 = .ok (.lmul, 1) := by decide +kernel
theorem dX9_partsAbove_18 : decode cX9_partsAbove 18 = .ok (.aload_n 0, 1) := by decide +kernel
theorem dX9_partsAbove_19 : decode cX9_partsAbove 19 = .ok (.getfield 33, 3) := by decide +kernel
theorem dX9_partsAbove_22 : decode cX9_partsAbove 22 = .ok (.ldiv, 1) := by decide +kernel
theorem dX9_partsAbove_23 : decode cX9_partsAbove 23 = .ok (.goto 4, 3) := by decide +kernel
theorem dX9_partsAbove_26 : decode cX9_partsAbove 26 = .ok (.lconst 0, 1) := by decide +kernel
theorem dX9_partsAbove_27 : decode cX9_partsAbove 27 = .ok (.lreturn, 1) := by decide +kernel
theorem dX9_leastFactor_0 : decode cX9_leastFactor 0 = .ok (.iconst 0, 1) := by decide +kernel
theorem dX9_leastFactor_1 : decode cX9_leastFactor 1 = .ok (.istore_n 2, 1) := by decide +kernel
theorem dX9_leastFactor_2 : decode cX9_leastFactor 2 = .ok (.iload_n 2, 1) := by decide +kernel
theorem dX9_leastFactor_3 : decode cX9_leastFactor 3 = .ok (.bipush 99, 2) := by decide +kernel
theorem dX9_leastFactor_5 : decode cX9_leastFactor 5 = .ok (.if_icmp .gt 22, 3) := by decide +kernel
theorem dX9_leastFactor_8 : decode cX9_leastFactor 8 = .ok (.aload_n 0, 1) := by decide +kernel
theorem dX9_leastFactor_9 : decode cX9_leastFactor 9 = .ok (.iload_n 2, 1) := by decide +kernel
theorem dX9_leastFactor_10 : decode cX9_leastFactor 10 = .ok (.invokevirtual 53, 3) := by decide +kernel
theorem dX9_leastFactor_13 : decode cX9_leastFactor 13 = .ok (.iload_n 1, 1) := by decide +kernel
theorem dX9_leastFactor_14 : decode cX9_leastFactor 14 = .ok (.i2l, 1) := by decide +kernel
theorem dX9_leastFactor_15 : decode cX9_leastFactor 15 = .ok (.lcmp, 1) := by decide +kernel
theorem dX9_leastFactor_16 : decode cX9_leastFactor 16 = .ok (.ifCond .gt 5, 3) := by decide +kernel
theorem dX9_leastFactor_19 : decode cX9_leastFactor 19 = .ok (.iload_n 2, 1) := by decide +kernel
theorem dX9_leastFactor_20 : decode cX9_leastFactor 20 = .ok (.ireturn, 1) := by decide +kernel
theorem dX9_leastFactor_21 : decode cX9_leastFactor 21 = .ok (.iinc 2 1, 3) := by decide +kernel
theorem dX9_leastFactor_24 : decode cX9_leastFactor 24 = .ok (.goto (-22), 3) := by decide +kernel
theorem dX9_leastFactor_27 : decode cX9_leastFactor 27 = .ok (.iconst (-1), 1) := by decide +kernel
theorem dX9_leastFactor_28 : decode cX9_leastFactor 28 = .ok (.ireturn, 1) := by decide +kernel
theorem dX10_init_0 : decode cX10_init 0 = .ok (.aload_n 0, 1) := by decide +kernel
theorem dX10_init_1 : decode cX10_init 1 = .ok (.invokespecial 3, 3) := by decide +kernel
theorem dX10_init_4 : decode cX10_init 4 = .ok (.aload_n 0, 1) := by decide +kernel
theorem dX10_init_5 : decode cX10_init 5 = .ok (.bipush 120, 2) := by decide +kernel
theorem dX10_init_7 : decode cX10_init 7 = .ok (.newarray .int, 2) := by decide +kernel
theorem dX10_init_9 : decode cX10_init 9 = .ok (.putfield 11, 3) := by decide +kernel
theorem dX10_init_12 : decode cX10_init 12 = .ok (.return_, 1) := by decide +kernel
theorem dX10_signsOf_0 : decode cX10_signsOf 0 = .ok (.iconst 0, 1) := by decide +kernel
theorem dX10_signsOf_1 : decode cX10_signsOf 1 = .ok (.istore_n 1, 1) := by decide +kernel
theorem dX10_signsOf_2 : decode cX10_signsOf 2 = .ok (.bipush 24, 2) := by decide +kernel
theorem dX10_signsOf_4 : decode cX10_signsOf 4 = .ok (.istore_n 2, 1) := by decide +kernel
theorem dX10_signsOf_5 : decode cX10_signsOf 5 = .ok (.iload_n 2, 1) := by decide +kernel
theorem dX10_signsOf_6 : decode cX10_signsOf 6 = .ok (.ifCond .lt 22, 3) := by decide +kernel
theorem dX10_signsOf_9 : decode cX10_signsOf 9 = .ok (.iload_n 0, 1) := by decide +kernel
theorem dX10_signsOf_10 : decode cX10_signsOf 10 = .ok (.iload_n 2, 1) := by decide +kernel
theorem dX10_signsOf_11 : decode cX10_signsOf 11 = .ok (.iushr, 1) := by decide +kernel
theorem dX10_signsOf_12 : decode cX10_signsOf 12 = .ok (.sipush 255, 3) := by decide +kernel
theorem dX10_signsOf_15 : decode cX10_signsOf 15 = .ok (.iand, 1) := by decide +kernel
theorem dX10_signsOf_16 : decode cX10_signsOf 16 = .ok (.ifCond .eq 6, 3) := by decide +kernel
theorem dX10_signsOf_19 : decode cX10_signsOf 19 = .ok (.iinc 1 1, 3) := by decide +kernel
theorem dX10_signsOf_22 : decode cX10_signsOf 22 = .ok (.iinc 2 (-8), 3) := by decide +kernel
theorem dX10_signsOf_25 : decode cX10_signsOf 25 = .ok (.goto (-20), 3) := by decide +kernel
theorem dX10_signsOf_28 : decode cX10_signsOf 28 = .ok (.iload_n 1, 1) := by decide +kernel
theorem dX10_signsOf_29 : decode cX10_signsOf 29 = .ok (.ireturn, 1) := by decide +kernel
theorem dX10_put_0 : decode cX10_put 0 = .ok (.bipush 24, 2) := by decide +kernel
theorem dX10_put_2 : decode cX10_put 2 = .ok (.istore_n 2, 1) := by decide +kernel
theorem dX10_put_3 : decode cX10_put 3 = .ok (.iload_n 2, 1) := by decide +kernel
theorem dX10_put_4 : decode cX10_put 4 = .ok (.ifCond .lt 50, 3) := by decide +kernel
theorem dX10_put_7 : decode cX10_put 7 = .ok (.iload_n 1, 1) := by decide +kernel
theorem dX10_put_8 : decode cX10_put 8 = .ok (.iload_n 2, 1) := by decide +kernel
theorem dX10_put_9 : decode cX10_put 9 = .ok (.iushr, 1) := by decide +kernel
theorem dX10_put_10 : decode cX10_put 10 = .ok (.sipush 255, 3) := by decide +kernel
theorem dX10_put_13 : decode cX10_put 13 = .ok (.iand, 1) := by decide +kernel
theorem dX10_put_14 : decode cX10_put 14 = .ok (.istore_n 3, 1) := by decide +kernel
theorem dX10_put_15 : decode cX10_put 15 = .ok (.iload_n 3, 1) := by decide +kernel
theorem dX10_put_16 : decode cX10_put 16 = .ok (.ifCond .eq 32, 3) := by decide +kernel
theorem dX10_put_19 : decode cX10_put 19 = .ok (.aload_n 0, 1) := by decide +kernel
theorem dX10_put_20 : decode cX10_put 20 = .ok (.getfield 15, 3) := by decide +kernel
theorem dX10_put_23 : decode cX10_put 23 = .ok (.bipush 120, 2) := by decide +kernel
theorem dX10_put_25 : decode cX10_put 25 = .ok (.if_icmp .ge 23, 3) := by decide +kernel
theorem dX10_put_28 : decode cX10_put 28 = .ok (.aload_n 0, 1) := by decide +kernel
theorem dX10_put_29 : decode cX10_put 29 = .ok (.getfield 11, 3) := by decide +kernel
theorem dX10_put_32 : decode cX10_put 32 = .ok (.aload_n 0, 1) := by decide +kernel
theorem dX10_put_33 : decode cX10_put 33 = .ok (.getfield 15, 3) := by decide +kernel
theorem dX10_put_36 : decode cX10_put 36 = .ok (.iload_n 3, 1) := by decide +kernel
theorem dX10_put_37 : decode cX10_put 37 = .ok (.iastore, 1) := by decide +kernel
theorem dX10_put_38 : decode cX10_put 38 = .ok (.aload_n 0, 1) := by decide +kernel
theorem dX10_put_39 : decode cX10_put 39 = .ok (.dup, 1) := by decide +kernel
theorem dX10_put_40 : decode cX10_put 40 = .ok (.getfield 15, 3) := by decide +kernel
theorem dX10_put_43 : decode cX10_put 43 = .ok (.iconst 1, 1) := by decide +kernel
theorem dX10_put_44 : decode cX10_put 44 = .ok (.iadd, 1) := by decide +kernel
theorem dX10_put_45 : decode cX10_put 45 = .ok (.putfield 15, 3) := by decide +kernel
theorem dX10_put_48 : decode cX10_put 48 = .ok (.iinc 2 (-8), 3) := by decide +kernel
theorem dX10_put_51 : decode cX10_put 51 = .ok (.goto (-48), 3) := by decide +kernel
theorem dX10_put_54 : decode cX10_put 54 = .ok (.return_, 1) := by decide +kernel
theorem dX10_cutTo_0 : decode cX10_cutTo 0 = .ok (.iload_n 1, 1) := by decide +kernel
theorem dX10_cutTo_1 : decode cX10_cutTo 1 = .ok (.ifCond .lt 11, 3) := by decide +kernel
theorem dX10_cutTo_4 : decode cX10_cutTo 4 = .ok (.iload_n 1, 1) := by decide +kernel
theorem dX10_cutTo_5 : decode cX10_cutTo 5 = .ok (.aload_n 0, 1) := by decide +kernel
theorem dX10_cutTo_6 : decode cX10_cutTo 6 = .ok (.getfield 15, 3) := by decide +kernel
theorem dX10_cutTo_9 : decode cX10_cutTo 9 = .ok (.if_icmp .le 5, 3) := by decide +kernel
theorem dX10_cutTo_12 : decode cX10_cutTo 12 = .ok (.iconst 0, 1) := by decide +kernel
theorem dX10_cutTo_13 : decode cX10_cutTo 13 = .ok (.ireturn, 1) := by decide +kernel
theorem dX10_cutTo_14 : decode cX10_cutTo 14 = .ok (.aload_n 0, 1) := by decide +kernel
theorem dX10_cutTo_15 : decode cX10_cutTo 15 = .ok (.iload_n 1, 1) := by decide +kernel
theorem dX10_cutTo_16 : decode cX10_cutTo 16 = .ok (.putfield 15, 3) := by decide +kernel
theorem dX10_cutTo_19 : decode cX10_cutTo 19 = .ok (.iconst 1, 1) := by decide +kernel
theorem dX10_cutTo_20 : decode cX10_cutTo 20 = .ok (.ireturn, 1) := by decide +kernel
theorem dX10_start_0 : decode cX10_start 0 = .ok (.aload_n 0, 1) := by decide +kernel
theorem dX10_start_1 : decode cX10_start 1 = .ok (.iconst 0, 1) := by decide +kernel
theorem dX10_start_2 : decode cX10_start 2 = .ok (.putfield 19, 3) := by decide +kernel
theorem dX10_start_5 : decode cX10_start 5 = .ok (.return_, 1) := by decide +kernel
theorem dX10_here_0 : decode cX10_here 0 = .ok (.aload_n 0, 1) := by decide +kernel
theorem dX10_here_1 : decode cX10_here 1 = .ok (.getfield 19, 3) := by decide +kernel
theorem dX10_here_4 : decode cX10_here 4 = .ok (.ifCond .lt 26, 3) := by decide +kernel
theorem dX10_here_7 : decode cX10_here 7 = .ok (.aload_n 0, 1) := by decide +kernel
theorem dX10_here_8 : decode cX10_here 8 = .ok (.getfield 19, 3) := by decide +kernel
theorem dX10_here_11 : decode cX10_here 11 = .ok (.aload_n 0, 1) := by decide +kernel
theorem dX10_here_12 : decode cX10_here 12 = .ok (.getfield 15, 3) := by decide +kernel
theorem dX10_here_15 : decode cX10_here 15 = .ok (.if_icmp .ge 15, 3) := by decide +kernel
theorem dX10_here_18 : decode cX10_here 18 = .ok (.aload_n 0, 1) := by decide +kernel
theorem dX10_here_19 : decode cX10_here 19 = .ok (.getfield 11, 3) := by decide +kernel
theorem dX10_here_22 : decode cX10_here 22 = .ok (.aload_n 0, 1) := by decide +kernel
theorem dX10_here_23 : decode cX10_here 23 = .ok (.getfield 19, 3) := by decide +kernel
theorem dX10_here_26 : decode cX10_here 26 = .ok (.iaload, 1) := by decide +kernel
theorem dX10_here_27 : decode cX10_here 27 = .ok (.goto 4, 3) := by decide +kernel
theorem dX10_here_30 : decode cX10_here 30 = .ok (.iconst 0, 1) := by decide +kernel
theorem dX10_here_31 : decode cX10_here 31 = .ok (.ireturn, 1) := by decide +kernel
theorem dX10_next_0 : decode cX10_next 0 = .ok (.aload_n 0, 1) := by decide +kernel
theorem dX10_next_1 : decode cX10_next 1 = .ok (.getfield 19, 3) := by decide +kernel
theorem dX10_next_4 : decode cX10_next 4 = .ok (.aload_n 0, 1) := by decide +kernel
theorem dX10_next_5 : decode cX10_next 5 = .ok (.getfield 15, 3) := by decide +kernel
theorem dX10_next_8 : decode cX10_next 8 = .ok (.if_icmp .ge 25, 3) := by decide +kernel
theorem dX10_next_11 : decode cX10_next 11 = .ok (.aload_n 0, 1) := by decide +kernel
theorem dX10_next_12 : decode cX10_next 12 = .ok (.invokevirtual 22, 3) := by decide +kernel
theorem dX10_next_15 : decode cX10_next 15 = .ok (.bipush 32, 2) := by decide +kernel
theorem dX10_next_17 : decode cX10_next 17 = .ok (.if_icmp .ne 16, 3) := by decide +kernel
theorem dX10_next_20 : decode cX10_next 20 = .ok (.aload_n 0, 1) := by decide +kernel
theorem dX10_next_21 : decode cX10_next 21 = .ok (.dup, 1) := by decide +kernel
theorem dX10_next_22 : decode cX10_next 22 = .ok (.getfield 19, 3) := by decide +kernel
theorem dX10_next_25 : decode cX10_next 25 = .ok (.iconst 1, 1) := by decide +kernel
theorem dX10_next_26 : decode cX10_next 26 = .ok (.iadd, 1) := by decide +kernel
theorem dX10_next_27 : decode cX10_next 27 = .ok (.putfield 19, 3) := by decide +kernel
theorem dX10_next_30 : decode cX10_next 30 = .ok (.goto (-30), 3) := by decide +kernel
theorem dX10_next_33 : decode cX10_next 33 = .ok (.aload_n 0, 1) := by decide +kernel
theorem dX10_next_34 : decode cX10_next 34 = .ok (.invokevirtual 22, 3) := by decide +kernel
theorem dX10_next_37 : decode cX10_next 37 = .ok (.ireturn, 1) := by decide +kernel
theorem dX10_step_0 : decode cX10_step 0 = .ok (.aload_n 0, 1) := by decide +kernel
theorem dX10_step_1 : decode cX10_step 1 = .ok (.getfield 19, 3) := by decide +kernel
theorem dX10_step_4 : decode cX10_step 4 = .ok (.aload_n 0, 1) := by decide +kernel
theorem dX10_step_5 : decode cX10_step 5 = .ok (.getfield 15, 3) := by decide +kernel
theorem dX10_step_8 : decode cX10_step 8 = .ok (.if_icmp .ge 13, 3) := by decide +kernel
theorem dX10_step_11 : decode cX10_step 11 = .ok (.aload_n 0, 1) := by decide +kernel
theorem dX10_step_12 : decode cX10_step 12 = .ok (.dup, 1) := by decide +kernel
theorem dX10_step_13 : decode cX10_step 13 = .ok (.getfield 19, 3) := by decide +kernel
theorem dX10_step_16 : decode cX10_step 16 = .ok (.iconst 1, 1) := by decide +kernel
theorem dX10_step_17 : decode cX10_step 17 = .ok (.iadd, 1) := by decide +kernel
theorem dX10_step_18 : decode cX10_step 18 = .ok (.putfield 19, 3) := by decide +kernel
theorem dX10_step_21 : decode cX10_step 21 = .ok (.return_, 1) := by decide +kernel
theorem dX10_take_0 : decode cX10_take 0 = .ok (.aload_n 0, 1) := by decide +kernel
theorem dX10_take_1 : decode cX10_take 1 = .ok (.invokevirtual 26, 3) := by decide +kernel
theorem dX10_take_4 : decode cX10_take 4 = .ok (.iload_n 1, 1) := by decide +kernel
theorem dX10_take_5 : decode cX10_take 5 = .ok (.if_icmp .eq 5, 3) := by decide +kernel
theorem dX10_take_8 : decode cX10_take 8 = .ok (.iconst 0, 1) := by decide +kernel
theorem dX10_take_9 : decode cX10_take 9 = .ok (.ireturn, 1) := by decide +kernel
theorem dX10_take_10 : decode cX10_take 10 = .ok (.aload_n 0, 1) := by decide +kernel
theorem dX10_take_11 : decode cX10_take 11 = .ok (.invokevirtual 29, 3) := by decide +kernel
theorem dX10_take_14 : decode cX10_take 14 = .ok (.iconst 1, 1) := by decide +kernel
theorem dX10_take_15 : decode cX10_take 15 = .ok (.ireturn, 1) := by decide +kernel
theorem dX10_digit_0 : decode cX10_digit 0 = .ok (.aload_n 0, 1) := by decide +kernel
theorem dX10_digit_1 : decode cX10_digit 1 = .ok (.invokevirtual 22, 3) := by decide +kernel
theorem dX10_digit_4 : decode cX10_digit 4 = .ok (.istore_n 1, 1) := by decide +kernel
theorem dX10_digit_5 : decode cX10_digit 5 = .ok (.iload_n 1, 1) := by decide +kernel
theorem dX10_digit_6 : decode cX10_digit 6 = .ok (.bipush 48, 2) := by decide +kernel
theorem dX10_digit_8 : decode cX10_digit 8 = .ok (.if_icmp .lt 16, 3) := by decide +kernel
theorem dX10_digit_11 : decode cX10_digit 11 = .ok (.iload_n 1, 1) := by decide +kernel
theorem dX10_digit_12 : decode cX10_digit 12 = .ok (.bipush 57, 2) := by decide +kernel
theorem dX10_digit_14 : decode cX10_digit 14 = .ok (.if_icmp .gt 10, 3) := by decide +kernel
theorem dX10_digit_17 : decode cX10_digit 17 = .ok (.iload_n 1, 1) := by decide +kernel
theorem dX10_digit_18 : decode cX10_digit 18 = .ok (.bipush 48, 2) := by decide +kernel
theorem dX10_digit_20 : decode cX10_digit 20 = .ok (.isub, 1) := by decide +kernel
theorem dX10_digit_21 : decode cX10_digit 21 = .ok (.goto 4, 3) := by decide +kernel
theorem dX10_digit_24 : decode cX10_digit 24 = .ok (.iconst (-1), 1) := by decide +kernel
theorem dX10_digit_25 : decode cX10_digit 25 = .ok (.ireturn, 1) := by decide +kernel
theorem dX11_init_0 : decode cX11_init 0 = .ok (.aload_n 0, 1) := by decide +kernel
theorem dX11_init_1 : decode cX11_init 1 = .ok (.invokespecial 1, 3) := by decide +kernel
theorem dX11_init_4 : decode cX11_init 4 = .ok (.aload_n 0, 1) := by decide +kernel
theorem dX11_init_5 : decode cX11_init 5 = .ok (.bipush 6, 2) := by decide +kernel
theorem dX11_init_7 : decode cX11_init 7 = .ok (.newarray .int, 2) := by decide +kernel
theorem dX11_init_9 : decode cX11_init 9 = .ok (.dup, 1) := by decide +kernel
theorem dX11_init_10 : decode cX11_init 10 = .ok (.iconst 0, 1) := by decide +kernel
theorem dX11_init_11 : decode cX11_init 11 = .ok (.iconst 1, 1) := by decide +kernel
theorem dX11_init_12 : decode cX11_init 12 = .ok (.iastore, 1) := by decide +kernel
theorem dX11_init_13 : decode cX11_init 13 = .ok (.dup, 1) := by decide +kernel
theorem dX11_init_14 : decode cX11_init 14 = .ok (.iconst 1, 1) := by decide +kernel
theorem dX11_init_15 : decode cX11_init 15 = .ok (.iconst 1, 1) := by decide +kernel
theorem dX11_init_16 : decode cX11_init 16 = .ok (.iastore, 1) := by decide +kernel
theorem dX11_init_17 : decode cX11_init 17 = .ok (.dup, 1) := by decide +kernel
theorem dX11_init_18 : decode cX11_init 18 = .ok (.iconst 2, 1) := by decide +kernel
theorem dX11_init_19 : decode cX11_init 19 = .ok (.iconst 1, 1) := by decide +kernel
theorem dX11_init_20 : decode cX11_init 20 = .ok (.iastore, 1) := by decide +kernel
theorem dX11_init_21 : decode cX11_init 21 = .ok (.dup, 1) := by decide +kernel
theorem dX11_init_22 : decode cX11_init 22 = .ok (.iconst 3, 1) := by decide +kernel
theorem dX11_init_23 : decode cX11_init 23 = .ok (.iconst 3, 1) := by decide +kernel
theorem dX11_init_24 : decode cX11_init 24 = .ok (.iastore, 1) := by decide +kernel
theorem dX11_init_25 : decode cX11_init 25 = .ok (.dup, 1) := by decide +kernel
theorem dX11_init_26 : decode cX11_init 26 = .ok (.iconst 4, 1) := by decide +kernel
theorem dX11_init_27 : decode cX11_init 27 = .ok (.iconst 3, 1) := by decide +kernel
theorem dX11_init_28 : decode cX11_init 28 = .ok (.iastore, 1) := by decide +kernel
theorem dX11_init_29 : decode cX11_init 29 = .ok (.dup, 1) := by decide +kernel
theorem dX11_init_30 : decode cX11_init 30 = .ok (.iconst 5, 1) := by decide +kernel
theorem dX11_init_31 : decode cX11_init 31 = .ok (.bipush 20, 2) := by decide +kernel
theorem dX11_init_33 : decode cX11_init 33 = .ok (.iastore, 1) := by decide +kernel
theorem dX11_init_34 : decode cX11_init 34 = .ok (.putfield 7, 3) := by decide +kernel
theorem dX11_init_37 : decode cX11_init 37 = .ok (.aload_n 0, 1) := by decide +kernel
theorem dX11_init_38 : decode cX11_init 38 = .ok (.new 13, 3) := by decide +kernel
theorem dX11_init_41 : decode cX11_init 41 = .ok (.dup, 1) := by decide +kernel
theorem dX11_init_42 : decode cX11_init 42 = .ok (.invokespecial 15, 3) := by decide +kernel
theorem dX11_init_45 : decode cX11_init 45 = .ok (.putfield 16, 3) := by decide +kernel
theorem dX11_init_48 : decode cX11_init 48 = .ok (.aload_n 0, 1) := by decide +kernel
theorem dX11_init_49 : decode cX11_init 49 = .ok (.new 20, 3) := by decide +kernel
theorem dX11_init_52 : decode cX11_init 52 = .ok (.dup, 1) := by decide +kernel
theorem dX11_init_53 : decode cX11_init 53 = .ok (.invokespecial 22, 3) := by decide +kernel
theorem dX11_init_56 : decode cX11_init 56 = .ok (.putfield 23, 3) := by decide +kernel
theorem dX11_init_59 : decode cX11_init 59 = .ok (.aload_n 0, 1) := by decide +kernel
theorem dX11_init_60 : decode cX11_init 60 = .ok (.new 27, 3) := by decide +kernel
theorem dX11_init_63 : decode cX11_init 63 = .ok (.dup, 1) := by decide +kernel
theorem dX11_init_64 : decode cX11_init 64 = .ok (.aload_n 0, 1) := by decide +kernel
theorem dX11_init_65 : decode cX11_init 65 = .ok (.getfield 16, 3) := by decide +kernel
theorem dX11_init_68 : decode cX11_init 68 = .ok (.invokespecial 29, 3) := by decide +kernel
theorem dX11_init_71 : decode cX11_init 71 = .ok (.putfield 32, 3) := by decide +kernel
theorem dX11_init_74 : decode cX11_init 74 = .ok (.aload_n 0, 1) := by decide +kernel
theorem dX11_init_75 : decode cX11_init 75 = .ok (.new 36, 3) := by decide +kernel
theorem dX11_init_78 : decode cX11_init 78 = .ok (.dup, 1) := by decide +kernel
theorem dX11_init_79 : decode cX11_init 79 = .ok (.invokespecial 38, 3) := by decide +kernel
theorem dX11_init_82 : decode cX11_init 82 = .ok (.putfield 39, 3) := by decide +kernel
theorem dX11_init_85 : decode cX11_init 85 = .ok (.aload_n 0, 1) := by decide +kernel
theorem dX11_init_86 : decode cX11_init 86 = .ok (.new 43, 3) := by decide +kernel
theorem dX11_init_89 : decode cX11_init 89 = .ok (.dup, 1) := by decide +kernel
theorem dX11_init_90 : decode cX11_init 90 = .ok (.aload_n 0, 1) := by decide +kernel
theorem dX11_init_91 : decode cX11_init 91 = .ok (.getfield 23, 3) := by decide +kernel
theorem dX11_init_94 : decode cX11_init 94 = .ok (.aload_n 0, 1) := by decide +kernel
theorem dX11_init_95 : decode cX11_init 95 = .ok (.getfield 39, 3) := by decide +kernel
theorem dX11_init_98 : decode cX11_init 98 = .ok (.invokespecial 45, 3) := by decide +kernel
theorem dX11_init_101 : decode cX11_init 101 = .ok (.putfield 48, 3) := by decide +kernel
theorem dX11_init_104 : decode cX11_init 104 = .ok (.aload_n 0, 1) := by decide +kernel
theorem dX11_init_105 : decode cX11_init 105 = .ok (.new 52, 3) := by decide +kernel
theorem dX11_init_108 : decode cX11_init 108 = .ok (.dup, 1) := by decide +kernel
theorem dX11_init_109 : decode cX11_init 109 = .ok (.aload_n 0, 1) := by decide +kernel
theorem dX11_init_110 : decode cX11_init 110 = .ok (.getfield 23, 3) := by decide +kernel
theorem dX11_init_113 : decode cX11_init 113 = .ok (.aload_n 0, 1) := by decide +kernel
theorem dX11_init_114 : decode cX11_init 114 = .ok (.getfield 48, 3) := by decide +kernel
theorem dX11_init_117 : decode cX11_init 117 = .ok (.invokespecial 54, 3) := by decide +kernel
theorem dX11_init_120 : decode cX11_init 120 = .ok (.putfield 57, 3) := by decide +kernel
theorem dX11_init_123 : decode cX11_init 123 = .ok (.aload_n 0, 1) := by decide +kernel
theorem dX11_init_124 : decode cX11_init 124 = .ok (.new 61, 3) := by decide +kernel
theorem dX11_init_127 : decode cX11_init 127 = .ok (.dup, 1) := by decide +kernel
theorem dX11_init_128 : decode cX11_init 128 = .ok (.aload_n 0, 1) := by decide +kernel
theorem dX11_init_129 : decode cX11_init 129 = .ok (.getfield 7, 3) := by decide +kernel
theorem dX11_init_132 : decode cX11_init 132 = .ok (.invokespecial 63, 3) := by decide +kernel
theorem dX11_init_135 : decode cX11_init 135 = .ok (.putfield 66, 3) := by decide +kernel
theorem dX11_init_138 : decode cX11_init 138 = .ok (.aload_n 0, 1) := by decide +kernel
theorem dX11_init_139 : decode cX11_init 139 = .ok (.new 70, 3) := by decide +kernel
theorem dX11_init_142 : decode cX11_init 142 = .ok (.dup, 1) := by decide +kernel
theorem dX11_init_143 : decode cX11_init 143 = .ok (.invokespecial 72, 3) := by decide +kernel
theorem dX11_init_146 : decode cX11_init 146 = .ok (.putfield 73, 3) := by decide +kernel
theorem dX11_init_149 : decode cX11_init 149 = .ok (.aload_n 0, 1) := by decide +kernel
theorem dX11_init_150 : decode cX11_init 150 = .ok (.new 77, 3) := by decide +kernel
theorem dX11_init_153 : decode cX11_init 153 = .ok (.dup, 1) := by decide +kernel
theorem dX11_init_154 : decode cX11_init 154 = .ok (.aload_n 0, 1) := by decide +kernel
theorem dX11_init_155 : decode cX11_init 155 = .ok (.getfield 73, 3) := by decide +kernel
theorem dX11_init_158 : decode cX11_init 158 = .ok (.aload_n 0, 1) := by decide +kernel
theorem dX11_init_159 : decode cX11_init 159 = .ok (.getfield 7, 3) := by decide +kernel
theorem dX11_init_162 : decode cX11_init 162 = .ok (.invokespecial 79, 3) := by decide +kernel
theorem dX11_init_165 : decode cX11_init 165 = .ok (.putfield 82, 3) := by decide +kernel
theorem dX11_init_168 : decode cX11_init 168 = .ok (.aload_n 0, 1) := by decide +kernel
theorem dX11_init_169 : decode cX11_init 169 = .ok (.new 86, 3) := by decide +kernel
theorem dX11_init_172 : decode cX11_init 172 = .ok (.dup, 1) := by decide +kernel
theorem dX11_init_173 : decode cX11_init 173 = .ok (.invokespecial 88, 3) := by decide +kernel
theorem dX11_init_176 : decode cX11_init 176 = .ok (.putfield 89, 3) := by decide +kernel
theorem dX11_init_179 : decode cX11_init 179 = .ok (.aload_n 0, 1) := by decide +kernel
theorem dX11_init_180 : decode cX11_init 180 = .ok (.new 93, 3) := by decide +kernel
theorem dX11_init_183 : decode cX11_init 183 = .ok (.dup, 1) := by decide +kernel
theorem dX11_init_184 : decode cX11_init 184 = .ok (.invokespecial 95, 3) := by decide +kernel
theorem dX11_init_187 : decode cX11_init 187 = .ok (.putfield 96, 3) := by decide +kernel
theorem dX11_init_190 : decode cX11_init 190 = .ok (.return_, 1) := by decide +kernel
theorem dX11_feed_0 : decode cX11_feed 0 = .ok (.iload_n 1, 1) := by decide +kernel
theorem dX11_feed_1 : decode cX11_feed 1 = .ok (.invokestatic 100, 3) := by decide +kernel
theorem dX11_feed_4 : decode cX11_feed 4 = .ok (.iload_n 2, 1) := by decide +kernel
theorem dX11_feed_5 : decode cX11_feed 5 = .ok (.invokestatic 100, 3) := by decide +kernel
theorem dX11_feed_8 : decode cX11_feed 8 = .ok (.iadd, 1) := by decide +kernel
theorem dX11_feed_9 : decode cX11_feed 9 = .ok (.iload_n 3, 1) := by decide +kernel
theorem dX11_feed_10 : decode cX11_feed 10 = .ok (.invokestatic 100, 3) := by decide +kernel
theorem dX11_feed_13 : decode cX11_feed 13 = .ok (.iadd, 1) := by decide +kernel
theorem dX11_feed_14 : decode cX11_feed 14 = .ok (.iload 4, 2) := by decide +kernel
theorem dX11_feed_16 : decode cX11_feed 16 = .ok (.invokestatic 100, 3) := by decide +kernel
theorem dX11_feed_19 : decode cX11_feed 19 = .ok (.iadd, 1) := by decide +kernel
theorem dX11_feed_20 : decode cX11_feed 20 = .ok (.iload 5, 2) := by decide +kernel
theorem dX11_feed_22 : decode cX11_feed 22 = .ok (.invokestatic 100, 3) := by decide +kernel
theorem dX11_feed_25 : decode cX11_feed 25 = .ok (.iadd, 1) := by decide +kernel
theorem dX11_feed_26 : decode cX11_feed 26 = .ok (.istore 6, 2) := by decide +kernel
theorem dX11_feed_28 : decode cX11_feed 28 = .ok (.aload_n 0, 1) := by decide +kernel
theorem dX11_feed_29 : decode cX11_feed 29 = .ok (.getfield 16, 3) := by decide +kernel
theorem dX11_feed_32 : decode cX11_feed 32 = .ok (.getfield 104, 3) := by decide +kernel
theorem dX11_feed_35 : decode cX11_feed 35 = .ok (.iload 6, 2) := by decide +kernel
theorem dX11_feed_37 : decode cX11_feed 37 = .ok (.iadd, 1) := by decide +kernel
theorem dX11_feed_38 : decode cX11_feed 38 = .ok (.bipush 120, 2) := by decide +kernel
theorem dX11_feed_40 : decode cX11_feed 40 = .ok (.if_icmp .le 5, 3) := by decide +kernel
theorem dX11_feed_43 : decode cX11_feed 43 = .ok (.iconst (-1), 1) := by decide +kernel
theorem dX11_feed_44 : decode cX11_feed 44 = .ok (.ireturn, 1) := by decide +kernel
theorem dX11_feed_45 : decode cX11_feed 45 = .ok (.aload_n 0, 1) := by decide +kernel
theorem dX11_feed_46 : decode cX11_feed 46 = .ok (.getfield 16, 3) := by decide +kernel
theorem dX11_feed_49 : decode cX11_feed 49 = .ok (.iload_n 1, 1) := by decide +kernel
theorem dX11_feed_50 : decode cX11_feed 50 = .ok (.invokevirtual 108, 3) := by decide +kernel
theorem dX11_feed_53 : decode cX11_feed 53 = .ok (.aload_n 0, 1) := by decide +kernel
theorem dX11_feed_54 : decode cX11_feed 54 = .ok (.getfield 16, 3) := by decide +kernel
theorem dX11_feed_57 : decode cX11_feed 57 = .ok (.iload_n 2, 1) := by decide +kernel
theorem dX11_feed_58 : decode cX11_feed 58 = .ok (.invokevirtual 108, 3) := by decide +kernel
theorem dX11_feed_61 : decode cX11_feed 61 = .ok (.aload_n 0, 1) := by decide +kernel
theorem dX11_feed_62 : decode cX11_feed 62 = .ok (.getfield 16, 3) := by decide +kernel
theorem dX11_feed_65 : decode cX11_feed 65 = .ok (.iload_n 3, 1) := by decide +kernel
theorem dX11_feed_66 : decode cX11_feed 66 = .ok (.invokevirtual 108, 3) := by decide +kernel
theorem dX11_feed_69 : decode cX11_feed 69 = .ok (.aload_n 0, 1) := by decide +kernel
theorem dX11_feed_70 : decode cX11_feed 70 = .ok (.getfield 16, 3) := by decide +kernel
theorem dX11_feed_73 : decode cX11_feed 73 = .ok (.iload 4, 2) := by decide +kernel
theorem dX11_feed_75 : decode cX11_feed 75 = .ok (.invokevirtual 108, 3) := by decide +kernel
theorem dX11_feed_78 : decode cX11_feed 78 = .ok (.aload_n 0, 1) := by decide +kernel
theorem dX11_feed_79 : decode cX11_feed 79 = .ok (.getfield 16, 3) := by decide +kernel
theorem dX11_feed_82 : decode cX11_feed 82 = .ok (.iload 5, 2) := by decide +kernel
theorem dX11_feed_84 : decode cX11_feed 84 = .ok (.invokevirtual 108, 3) := by decide +kernel
theorem dX11_feed_87 : decode cX11_feed 87 = .ok (.aload_n 0, 1) := by decide +kernel
theorem dX11_feed_88 : decode cX11_feed 88 = .ok (.getfield 16, 3) := by decide +kernel
theorem dX11_feed_91 : decode cX11_feed 91 = .ok (.getfield 104, 3) := by decide +kernel
theorem dX11_feed_94 : decode cX11_feed 94 = .ok (.ireturn, 1) := by decide +kernel
theorem dX11_end_0 : decode cX11_end 0 = .ok (.aload_n 0, 1) := by decide +kernel
theorem dX11_end_1 : decode cX11_end 1 = .ok (.getfield 16, 3) := by decide +kernel
theorem dX11_end_4 : decode cX11_end 4 = .ok (.iload_n 1, 1) := by decide +kernel
theorem dX11_end_5 : decode cX11_end 5 = .ok (.invokevirtual 112, 3) := by decide +kernel
theorem dX11_end_8 : decode cX11_end 8 = .ok (.ireturn, 1) := by decide +kernel
theorem dX11_fault_0 : decode cX11_fault 0 = .ok (.iload_n 1, 1) := by decide +kernel
theorem dX11_fault_1 : decode cX11_fault 1 = .ok (.invokestatic 116, 3) := by decide +kernel
theorem dX11_fault_4 : decode cX11_fault 4 = .ok (.ifCond .eq 11, 3) := by decide +kernel
theorem dX11_fault_7 : decode cX11_fault 7 = .ok (.aload_n 0, 1) := by decide +kernel
theorem dX11_fault_8 : decode cX11_fault 8 = .ok (.iload_n 1, 1) := by decide +kernel
theorem dX11_fault_9 : decode cX11_fault 9 = .ok (.invokevirtual 119, 3) := by decide +kernel
theorem dX11_fault_12 : decode cX11_fault 12 = .ok (.goto 5, 3) := by decide +kernel
theorem dX11_fault_15 : decode cX11_fault 15 = .ok (.bipush (-2), 2) := by decide +kernel
theorem dX11_fault_17 : decode cX11_fault 17 = .ok (.ireturn, 1) := by decide +kernel
theorem dX11_text_0 : decode cX11_text 0 = .ok (.iload_n 1, 1) := by decide +kernel
theorem dX11_text_1 : decode cX11_text 1 = .ok (.invokestatic 116, 3) := by decide +kernel
theorem dX11_text_4 : decode cX11_text 4 = .ok (.ifCond .eq 12, 3) := by decide +kernel
theorem dX11_text_7 : decode cX11_text 7 = .ok (.aload_n 0, 1) := by decide +kernel
theorem dX11_text_8 : decode cX11_text 8 = .ok (.iload_n 1, 1) := by decide +kernel
theorem dX11_text_9 : decode cX11_text 9 = .ok (.invokevirtual 119, 3) := by decide +kernel
theorem dX11_text_12 : decode cX11_text 12 = .ok (.iconst (-1), 1) := by decide +kernel
theorem dX11_text_13 : decode cX11_text 13 = .ok (.if_icmp .eq 5, 3) := by decide +kernel
theorem dX11_text_16 : decode cX11_text 16 = .ok (.iconst (-1), 1) := by decide +kernel
theorem dX11_text_17 : decode cX11_text 17 = .ok (.ireturn, 1) := by decide +kernel
theorem dX11_text_18 : decode cX11_text 18 = .ok (.aload_n 0, 1) := by decide +kernel
theorem dX11_text_19 : decode cX11_text 19 = .ok (.iload_n 1, 1) := by decide +kernel
theorem dX11_text_20 : decode cX11_text 20 = .ok (.invokevirtual 122, 3) := by decide +kernel
theorem dX11_text_23 : decode cX11_text 23 = .ok (.istore_n 2, 1) := by decide +kernel
theorem dX11_text_24 : decode cX11_text 24 = .ok (.iload_n 2, 1) := by decide +kernel
theorem dX11_text_25 : decode cX11_text 25 = .ok (.iconst (-1), 1) := by decide +kernel
theorem dX11_text_26 : decode cX11_text 26 = .ok (.if_icmp .eq 12, 3) := by decide +kernel
theorem dX11_text_29 : decode cX11_text 29 = .ok (.aload_n 0, 1) := by decide +kernel
theorem dX11_text_30 : decode cX11_text 30 = .ok (.getfield 16, 3) := by decide +kernel
theorem dX11_text_33 : decode cX11_text 33 = .ok (.iconst 0, 1) := by decide +kernel
theorem dX11_text_34 : decode cX11_text 34 = .ok (.invokevirtual 112, 3) := by decide +kernel
theorem dX11_text_37 : decode cX11_text 37 = .ok (.pop, 1) := by decide +kernel
theorem dX11_text_38 : decode cX11_text 38 = .ok (.iload_n 2, 1) := by decide +kernel
theorem dX11_text_39 : decode cX11_text 39 = .ok (.ireturn, 1) := by decide +kernel
theorem dX11_isSort_0 : decode cX11_isSort 0 = .ok (.iload_n 0, 1) := by decide +kernel
theorem dX11_isSort_1 : decode cX11_isSort 1 = .ok (.iconst 0, 1) := by decide +kernel
theorem dX11_isSort_2 : decode cX11_isSort 2 = .ok (.iconst 2, 1) := by decide +kernel
theorem dX11_isSort_3 : decode cX11_isSort 3 = .ok (.invokestatic 125, 3) := by decide +kernel
theorem dX11_isSort_6 : decode cX11_isSort 6 = .ok (.ireturn, 1) := by decide +kernel
theorem dX11_faultOf_0 : decode cX11_faultOf 0 = .ok (.iload_n 1, 1) := by decide +kernel
theorem dX11_faultOf_1 : decode cX11_faultOf 1 = .ok (.ifCond .ne 15, 3) := by decide +kernel
theorem dX11_faultOf_4 : decode cX11_faultOf 4 = .ok (.aload_n 0, 1) := by decide +kernel
theorem dX11_faultOf_5 : decode cX11_faultOf 5 = .ok (.getfield 23, 3) := by decide +kernel
theorem dX11_faultOf_8 : decode cX11_faultOf 8 = .ok (.aload_n 0, 1) := by decide +kernel
theorem dX11_faultOf_9 : decode cX11_faultOf 9 = .ok (.getfield 16, 3) := by decide +kernel
theorem dX11_faultOf_12 : decode cX11_faultOf 12 = .ok (.invokevirtual 129, 3) := by decide +kernel
theorem dX11_faultOf_15 : decode cX11_faultOf 15 = .ok (.ireturn, 1) := by decide +kernel
theorem dX11_faultOf_16 : decode cX11_faultOf 16 = .ok (.iload_n 1, 1) := by decide +kernel
theorem dX11_faultOf_17 : decode cX11_faultOf 17 = .ok (.iconst 1, 1) := by decide +kernel
theorem dX11_faultOf_18 : decode cX11_faultOf 18 = .ok (.if_icmp .ne 13, 3) := by decide +kernel
theorem dX11_faultOf_21 : decode cX11_faultOf 21 = .ok (.aload_n 0, 1) := by decide +kernel
theorem dX11_faultOf_22 : decode cX11_faultOf 22 = .ok (.getfield 32, 3) := by decide +kernel
theorem dX11_faultOf_25 : decode cX11_faultOf 25 = .ok (.invokevirtual 133, 3) := by decide +kernel
theorem dX11_faultOf_28 : decode cX11_faultOf 28 = .ok (.goto 14, 3) := by decide +kernel
theorem dX11_faultOf_31 : decode cX11_faultOf 31 = .ok (.aload_n 0, 1) := by decide +kernel
theorem dX11_faultOf_32 : decode cX11_faultOf 32 = .ok (.getfield 66, 3) := by decide +kernel
theorem dX11_faultOf_35 : decode cX11_faultOf 35 = .ok (.aload_n 0, 1) := by decide +kernel
theorem dX11_faultOf_36 : decode cX11_faultOf 36 = .ok (.getfield 16, 3) := by decide +kernel
theorem dX11_faultOf_39 : decode cX11_faultOf 39 = .ok (.invokevirtual 137, 3) := by decide +kernel
theorem dX11_faultOf_42 : decode cX11_faultOf 42 = .ok (.ireturn, 1) := by decide +kernel
theorem dX11_keep_0 : decode cX11_keep 0 = .ok (.iload_n 1, 1) := by decide +kernel
theorem dX11_keep_1 : decode cX11_keep 1 = .ok (.iconst 1, 1) := by decide +kernel
theorem dX11_keep_2 : decode cX11_keep 2 = .ok (.if_icmp .ne 15, 3) := by decide +kernel
theorem dX11_keep_5 : decode cX11_keep 5 = .ok (.aload_n 0, 1) := by decide +kernel
theorem dX11_keep_6 : decode cX11_keep 6 = .ok (.getfield 39, 3) := by decide +kernel
theorem dX11_keep_9 : decode cX11_keep 9 = .ok (.aload_n 0, 1) := by decide +kernel
theorem dX11_keep_10 : decode cX11_keep 10 = .ok (.getfield 32, 3) := by decide +kernel
theorem dX11_keep_13 : decode cX11_keep 13 = .ok (.invokevirtual 138, 3) := by decide +kernel
theorem dX11_keep_16 : decode cX11_keep 16 = .ok (.ireturn, 1) := by decide +kernel
theorem dX11_keep_17 : decode cX11_keep 17 = .ok (.iload_n 1, 1) := by decide +kernel
theorem dX11_keep_18 : decode cX11_keep 18 = .ok (.iconst 2, 1) := by decide +kernel
theorem dX11_keep_19 : decode cX11_keep 19 = .ok (.if_icmp .ne 11, 3) := by decide +kernel
theorem dX11_keep_22 : decode cX11_keep 22 = .ok (.aload_n 0, 1) := by decide +kernel
theorem dX11_keep_23 : decode cX11_keep 23 = .ok (.getfield 66, 3) := by decide +kernel
theorem dX11_keep_26 : decode cX11_keep 26 = .ok (.invokevirtual 141, 3) := by decide +kernel
theorem dX11_keep_29 : decode cX11_keep 29 = .ok (.ireturn, 1) := by decide +kernel
theorem dX11_keep_30 : decode cX11_keep 30 = .ok (.aload_n 0, 1) := by decide +kernel
theorem dX11_keep_31 : decode cX11_keep 31 = .ok (.getfield 23, 3) := by decide +kernel
theorem dX11_keep_34 : decode cX11_keep 34 = .ok (.invokevirtual 143, 3) := by decide +kernel
theorem dX11_keep_37 : decode cX11_keep 37 = .ok (.istore_n 2, 1) := by decide +kernel
theorem dX11_keep_38 : decode cX11_keep 38 = .ok (.iload_n 2, 1) := by decide +kernel
theorem dX11_keep_39 : decode cX11_keep 39 = .ok (.iconst (-1), 1) := by decide +kernel
theorem dX11_keep_40 : decode cX11_keep 40 = .ok (.if_icmp .eq 11, 3) := by decide +kernel
theorem dX11_keep_43 : decode cX11_keep 43 = .ok (.aload_n 0, 1) := by decide +kernel
theorem dX11_keep_44 : decode cX11_keep 44 = .ok (.getfield 48, 3) := by decide +kernel
theorem dX11_keep_47 : decode cX11_keep 47 = .ok (.iload_n 2, 1) := by decide +kernel
theorem dX11_keep_48 : decode cX11_keep 48 = .ok (.invokevirtual 144, 3) := by decide +kernel
theorem dX11_keep_51 : decode cX11_keep 51 = .ok (.iload_n 2, 1) := by decide +kernel
theorem dX11_keep_52 : decode cX11_keep 52 = .ok (.ireturn, 1) := by decide +kernel
theorem dX11_sign_0 : decode cX11_sign 0 = .ok (.aload_n 0, 1) := by decide +kernel
theorem dX11_sign_1 : decode cX11_sign 1 = .ok (.getfield 23, 3) := by decide +kernel
theorem dX11_sign_4 : decode cX11_sign 4 = .ok (.iload_n 1, 1) := by decide +kernel
theorem dX11_sign_5 : decode cX11_sign 5 = .ok (.invokevirtual 147, 3) := by decide +kernel
theorem dX11_sign_8 : decode cX11_sign 8 = .ok (.ifCond .eq 21, 3) := by decide +kernel
theorem dX11_sign_11 : decode cX11_sign 11 = .ok (.iload_n 2, 1) := by decide +kernel
theorem dX11_sign_12 : decode cX11_sign 12 = .ok (.iconst (-1), 1) := by decide +kernel
theorem dX11_sign_13 : decode cX11_sign 13 = .ok (.aload_n 0, 1) := by decide +kernel
theorem dX11_sign_14 : decode cX11_sign 14 = .ok (.getfield 23, 3) := by decide +kernel
theorem dX11_sign_17 : decode cX11_sign 17 = .ok (.iload_n 1, 1) := by decide +kernel
theorem dX11_sign_18 : decode cX11_sign 18 = .ok (.invokevirtual 150, 3) := by decide +kernel
theorem dX11_sign_21 : decode cX11_sign 21 = .ok (.iconst 1, 1) := by decide +kernel
theorem dX11_sign_22 : decode cX11_sign 22 = .ok (.isub, 1) := by decide +kernel
theorem dX11_sign_23 : decode cX11_sign 23 = .ok (.invokestatic 125, 3) := by decide +kernel
theorem dX11_sign_26 : decode cX11_sign 26 = .ok (.ifCond .ne 11, 3) := by decide +kernel
theorem dX11_sign_29 : decode cX11_sign 29 = .ok (.new 153, 3) := by decide +kernel
theorem dX11_sign_32 : decode cX11_sign 32 = .ok (.dup, 1) := by decide +kernel
theorem dX11_sign_33 : decode cX11_sign 33 = .ok (.invokespecial 155, 3) := by decide +kernel
theorem dX11_sign_36 : decode cX11_sign 36 = .ok (.athrow, 1) := by decide +kernel
theorem dX11_sign_37 : decode cX11_sign 37 = .ok (.iload_n 2, 1) := by decide +kernel
theorem dX11_sign_38 : decode cX11_sign 38 = .ok (.iconst (-1), 1) := by decide +kernel
theorem dX11_sign_39 : decode cX11_sign 39 = .ok (.if_icmp .ne 14, 3) := by decide +kernel
theorem dX11_sign_42 : decode cX11_sign 42 = .ok (.aload_n 0, 1) := by decide +kernel
theorem dX11_sign_43 : decode cX11_sign 43 = .ok (.getfield 23, 3) := by decide +kernel
theorem dX11_sign_46 : decode cX11_sign 46 = .ok (.iload_n 1, 1) := by decide +kernel
theorem dX11_sign_47 : decode cX11_sign 47 = .ok (.invokevirtual 150, 3) := by decide +kernel
theorem dX11_sign_50 : decode cX11_sign 50 = .ok (.goto 12, 3) := by decide +kernel
theorem dX11_sign_53 : decode cX11_sign 53 = .ok (.aload_n 0, 1) := by decide +kernel
theorem dX11_sign_54 : decode cX11_sign 54 = .ok (.getfield 23, 3) := by decide +kernel
theorem dX11_sign_57 : decode cX11_sign 57 = .ok (.iload_n 1, 1) := by decide +kernel
theorem dX11_sign_58 : decode cX11_sign 58 = .ok (.iload_n 2, 1) := by decide +kernel
theorem dX11_sign_59 : decode cX11_sign 59 = .ok (.invokevirtual 156, 3) := by decide +kernel
theorem dX11_sign_62 : decode cX11_sign 62 = .ok (.ireturn, 1) := by decide +kernel
theorem dX11_rest_0 : decode cX11_rest 0 = .ok (.aload_n 0, 1) := by decide +kernel
theorem dX11_rest_1 : decode cX11_rest 1 = .ok (.getfield 66, 3) := by decide +kernel
theorem dX11_rest_4 : decode cX11_rest 4 = .ok (.iload_n 1, 1) := by decide +kernel
theorem dX11_rest_5 : decode cX11_rest 5 = .ok (.invokevirtual 160, 3) := by decide +kernel
theorem dX11_rest_8 : decode cX11_rest 8 = .ok (.ifCond .eq 8, 3) := by decide +kernel
theorem dX11_rest_11 : decode cX11_rest 11 = .ok (.iload_n 2, 1) := by decide +kernel
theorem dX11_rest_12 : decode cX11_rest 12 = .ok (.iconst (-1), 1) := by decide +kernel
theorem dX11_rest_13 : decode cX11_rest 13 = .ok (.if_icmp .ge 5, 3) := by decide +kernel
theorem dX11_rest_16 : decode cX11_rest 16 = .ok (.iconst (-1), 1) := by decide +kernel
theorem dX11_rest_17 : decode cX11_rest 17 = .ok (.ireturn, 1) := by decide +kernel
theorem dX11_rest_18 : decode cX11_rest 18 = .ok (.iload_n 2, 1) := by decide +kernel
theorem dX11_rest_19 : decode cX11_rest 19 = .ok (.iconst (-1), 1) := by decide +kernel
theorem dX11_rest_20 : decode cX11_rest 20 = .ok (.if_icmp .ne 14, 3) := by decide +kernel
theorem dX11_rest_23 : decode cX11_rest 23 = .ok (.aload_n 0, 1) := by decide +kernel
theorem dX11_rest_24 : decode cX11_rest 24 = .ok (.getfield 66, 3) := by decide +kernel
theorem dX11_rest_27 : decode cX11_rest 27 = .ok (.iload_n 1, 1) := by decide +kernel
theorem dX11_rest_28 : decode cX11_rest 28 = .ok (.invokevirtual 161, 3) := by decide +kernel
theorem dX11_rest_31 : decode cX11_rest 31 = .ok (.goto 12, 3) := by decide +kernel
theorem dX11_rest_34 : decode cX11_rest 34 = .ok (.aload_n 0, 1) := by decide +kernel
theorem dX11_rest_35 : decode cX11_rest 35 = .ok (.getfield 66, 3) := by decide +kernel
theorem dX11_rest_38 : decode cX11_rest 38 = .ok (.iload_n 1, 1) := by decide +kernel
theorem dX11_rest_39 : decode cX11_rest 39 = .ok (.iload_n 2, 1) := by decide +kernel
theorem dX11_rest_40 : decode cX11_rest 40 = .ok (.invokevirtual 162, 3) := by decide +kernel
theorem dX11_rest_43 : decode cX11_rest 43 = .ok (.ireturn, 1) := by decide +kernel
theorem dX11_weight_0 : decode cX11_weight 0 = .ok (.aload_n 0, 1) := by decide +kernel
theorem dX11_weight_1 : decode cX11_weight 1 = .ok (.getfield 23, 3) := by decide +kernel
theorem dX11_weight_4 : decode cX11_weight 4 = .ok (.iload_n 1, 1) := by decide +kernel
theorem dX11_weight_5 : decode cX11_weight 5 = .ok (.invokevirtual 147, 3) := by decide +kernel
theorem dX11_weight_8 : decode cX11_weight 8 = .ok (.ifCond .eq 32, 3) := by decide +kernel
theorem dX11_weight_11 : decode cX11_weight 11 = .ok (.aload_n 0, 1) := by decide +kernel
theorem dX11_weight_12 : decode cX11_weight 12 = .ok (.getfield 39, 3) := by decide +kernel
theorem dX11_weight_15 : decode cX11_weight 15 = .ok (.iload_n 2, 1) := by decide +kernel
theorem dX11_weight_16 : decode cX11_weight 16 = .ok (.invokevirtual 165, 3) := by decide +kernel
theorem dX11_weight_19 : decode cX11_weight 19 = .ok (.ifCond .eq 21, 3) := by decide +kernel
theorem dX11_weight_22 : decode cX11_weight 22 = .ok (.iload_n 3, 1) := by decide +kernel
theorem dX11_weight_23 : decode cX11_weight 23 = .ok (.iconst 0, 1) := by decide +kernel
theorem dX11_weight_24 : decode cX11_weight 24 = .ok (.aload_n 0, 1) := by decide +kernel
theorem dX11_weight_25 : decode cX11_weight 25 = .ok (.getfield 23, 3) := by decide +kernel
theorem dX11_weight_28 : decode cX11_weight 28 = .ok (.iload_n 1, 1) := by decide +kernel
theorem dX11_weight_29 : decode cX11_weight 29 = .ok (.invokevirtual 150, 3) := by decide +kernel
theorem dX11_weight_32 : decode cX11_weight 32 = .ok (.iconst 1, 1) := by decide +kernel
theorem dX11_weight_33 : decode cX11_weight 33 = .ok (.isub, 1) := by decide +kernel
theorem dX11_weight_34 : decode cX11_weight 34 = .ok (.invokestatic 125, 3) := by decide +kernel
theorem dX11_weight_37 : decode cX11_weight 37 = .ok (.ifCond .ne 6, 3) := by decide +kernel
theorem dX11_weight_40 : decode cX11_weight 40 = .ok (.ldc 168, 2) := by decide +kernel
theorem dX11_weight_42 : decode cX11_weight 42 = .ok (.ireturn, 1) := by decide +kernel
theorem dX11_weight_43 : decode cX11_weight 43 = .ok (.aload_n 0, 1) := by decide +kernel
theorem dX11_weight_44 : decode cX11_weight 44 = .ok (.getfield 39, 3) := by decide +kernel
theorem dX11_weight_47 : decode cX11_weight 47 = .ok (.iload_n 2, 1) := by decide +kernel
theorem dX11_weight_48 : decode cX11_weight 48 = .ok (.iload_n 3, 1) := by decide +kernel
theorem dX11_weight_49 : decode cX11_weight 49 = .ok (.aload_n 0, 1) := by decide +kernel
theorem dX11_weight_50 : decode cX11_weight 50 = .ok (.getfield 23, 3) := by decide +kernel
theorem dX11_weight_53 : decode cX11_weight 53 = .ok (.iload_n 1, 1) := by decide +kernel
theorem dX11_weight_54 : decode cX11_weight 54 = .ok (.invokevirtual 150, 3) := by decide +kernel
theorem dX11_weight_57 : decode cX11_weight 57 = .ok (.aload_n 0, 1) := by decide +kernel
theorem dX11_weight_58 : decode cX11_weight 58 = .ok (.getfield 23, 3) := by decide +kernel
theorem dX11_weight_61 : decode cX11_weight 61 = .ok (.iload_n 1, 1) := by decide +kernel
theorem dX11_weight_62 : decode cX11_weight 62 = .ok (.iload_n 3, 1) := by decide +kernel
theorem dX11_weight_63 : decode cX11_weight 63 = .ok (.invokevirtual 156, 3) := by decide +kernel
theorem dX11_weight_66 : decode cX11_weight 66 = .ok (.invokevirtual 169, 3) := by decide +kernel
theorem dX11_weight_69 : decode cX11_weight 69 = .ok (.ireturn, 1) := by decide +kernel
theorem dX11_comes_0 : decode cX11_comes 0 = .ok (.aload_n 0, 1) := by decide +kernel
theorem dX11_comes_1 : decode cX11_comes 1 = .ok (.getfield 23, 3) := by decide +kernel
theorem dX11_comes_4 : decode cX11_comes 4 = .ok (.iload_n 1, 1) := by decide +kernel
theorem dX11_comes_5 : decode cX11_comes 5 = .ok (.invokevirtual 147, 3) := by decide +kernel
theorem dX11_comes_8 : decode cX11_comes 8 = .ok (.ifCond .eq 57, 3) := by decide +kernel
theorem dX11_comes_11 : decode cX11_comes 11 = .ok (.aload_n 0, 1) := by decide +kernel
theorem dX11_comes_12 : decode cX11_comes 12 = .ok (.getfield 23, 3) := by decide +kernel
theorem dX11_comes_15 : decode cX11_comes 15 = .ok (.iload_n 2, 1) := by decide +kernel
theorem dX11_comes_16 : decode cX11_comes 16 = .ok (.invokevirtual 147, 3) := by decide +kernel
theorem dX11_comes_19 : decode cX11_comes 19 = .ok (.ifCond .eq 46, 3) := by decide +kernel
theorem dX11_comes_22 : decode cX11_comes 22 = .ok (.aload_n 0, 1) := by decide +kernel
theorem dX11_comes_23 : decode cX11_comes 23 = .ok (.getfield 39, 3) := by decide +kernel
theorem dX11_comes_26 : decode cX11_comes 26 = .ok (.iload_n 3, 1) := by decide +kernel
theorem dX11_comes_27 : decode cX11_comes 27 = .ok (.invokevirtual 165, 3) := by decide +kernel
theorem dX11_comes_30 : decode cX11_comes 30 = .ok (.ifCond .eq 35, 3) := by decide +kernel
theorem dX11_comes_33 : decode cX11_comes 33 = .ok (.iload 4, 2) := by decide +kernel
theorem dX11_comes_35 : decode cX11_comes 35 = .ok (.bipush (-23), 2) := by decide +kernel
theorem dX11_comes_37 : decode cX11_comes 37 = .ok (.bipush 23, 2) := by decide +kernel
theorem dX11_comes_39 : decode cX11_comes 39 = .ok (.invokestatic 125, 3) := by decide +kernel
theorem dX11_comes_42 : decode cX11_comes 42 = .ok (.ifCond .eq 23, 3) := by decide +kernel
theorem dX11_comes_45 : decode cX11_comes 45 = .ok (.iload 5, 2) := by decide +kernel
theorem dX11_comes_47 : decode cX11_comes 47 = .ok (.iconst 0, 1) := by decide +kernel
theorem dX11_comes_48 : decode cX11_comes 48 = .ok (.iconst 3, 1) := by decide +kernel
theorem dX11_comes_49 : decode cX11_comes 49 = .ok (.invokestatic 125, 3) := by decide +kernel
theorem dX11_comes_52 : decode cX11_comes 52 = .ok (.ifCond .eq 13, 3) := by decide +kernel
theorem dX11_comes_55 : decode cX11_comes 55 = .ok (.iload 6, 2) := by decide +kernel
theorem dX11_comes_57 : decode cX11_comes 57 = .ok (.iconst 0, 1) := by decide +kernel
theorem dX11_comes_58 : decode cX11_comes 58 = .ok (.iconst 2, 1) := by decide +kernel
theorem dX11_comes_59 : decode cX11_comes 59 = .ok (.invokestatic 125, 3) := by decide +kernel
theorem dX11_comes_62 : decode cX11_comes 62 = .ok (.ifCond .ne 6, 3) := by decide +kernel
theorem dX11_comes_65 : decode cX11_comes 65 = .ok (.ldc 168, 2) := by decide +kernel
theorem dX11_comes_67 : decode cX11_comes 67 = .ok (.ireturn, 1) := by decide +kernel
theorem dX11_comes_68 : decode cX11_comes 68 = .ok (.aload_n 0, 1) := by decide +kernel
theorem dX11_comes_69 : decode cX11_comes 69 = .ok (.getfield 48, 3) := by decide +kernel
theorem dX11_comes_72 : decode cX11_comes 72 = .ok (.iload_n 2, 1) := by decide +kernel
theorem dX11_comes_73 : decode cX11_comes 73 = .ok (.iload_n 3, 1) := by decide +kernel
theorem dX11_comes_74 : decode cX11_comes 74 = .ok (.invokevirtual 173, 3) := by decide +kernel
theorem dX11_comes_77 : decode cX11_comes 77 = .ok (.aload_n 0, 1) := by decide +kernel
theorem dX11_comes_78 : decode cX11_comes 78 = .ok (.getfield 48, 3) := by decide +kernel
theorem dX11_comes_81 : decode cX11_comes 81 = .ok (.iload_n 1, 1) := by decide +kernel
theorem dX11_comes_82 : decode cX11_comes 82 = .ok (.iload_n 2, 1) := by decide +kernel
theorem dX11_comes_83 : decode cX11_comes 83 = .ok (.iload 4, 2) := by decide +kernel
theorem dX11_comes_85 : decode cX11_comes 85 = .ok (.iload 5, 2) := by decide +kernel
theorem dX11_comes_87 : decode cX11_comes 87 = .ok (.invokevirtual 177, 3) := by decide +kernel
theorem dX11_comes_90 : decode cX11_comes 90 = .ok (.istore 7, 2) := by decide +kernel
theorem dX11_comes_92 : decode cX11_comes 92 = .ok (.iload 6, 2) := by decide +kernel
theorem dX11_comes_94 : decode cX11_comes 94 = .ok (.iconst 2, 1) := by decide +kernel
theorem dX11_comes_95 : decode cX11_comes 95 = .ok (.if_icmp .ne 6, 3) := by decide +kernel
theorem dX11_comes_98 : decode cX11_comes 98 = .ok (.iload 7, 2) := by decide +kernel
theorem dX11_comes_100 : decode cX11_comes 100 = .ok (.ireturn, 1) := by decide +kernel
theorem dX11_comes_101 : decode cX11_comes 101 = .ok (.iload 6, 2) := by decide +kernel
theorem dX11_comes_103 : decode cX11_comes 103 = .ok (.ifCond .ne 13, 3) := by decide +kernel
theorem dX11_comes_106 : decode cX11_comes 106 = .ok (.aload_n 0, 1) := by decide +kernel
theorem dX11_comes_107 : decode cX11_comes 107 = .ok (.getfield 48, 3) := by decide +kernel
theorem dX11_comes_110 : decode cX11_comes 110 = .ok (.getfield 180, 3) := by decide +kernel
theorem dX11_comes_113 : decode cX11_comes 113 = .ok (.goto 10, 3) := by decide +kernel
theorem dX11_comes_116 : decode cX11_comes 116 = .ok (.aload_n 0, 1) := by decide +kernel
theorem dX11_comes_117 : decode cX11_comes 117 = .ok (.getfield 48, 3) := by decide +kernel
theorem dX11_comes_120 : decode cX11_comes 120 = .ok (.getfield 183, 3) := by decide +kernel
theorem dX11_comes_123 : decode cX11_comes 123 = .ok (.ireturn, 1) := by decide +kernel
theorem dX11_lobes_0 : decode cX11_lobes 0 = .ok (.aload_n 0, 1) := by decide +kernel
theorem dX11_lobes_1 : decode cX11_lobes 1 = .ok (.getfield 23, 3) := by decide +kernel
theorem dX11_lobes_4 : decode cX11_lobes 4 = .ok (.iload_n 1, 1) := by decide +kernel
theorem dX11_lobes_5 : decode cX11_lobes 5 = .ok (.invokevirtual 147, 3) := by decide +kernel
theorem dX11_lobes_8 : decode cX11_lobes 8 = .ok (.ifCond .eq 14, 3) := by decide +kernel
theorem dX11_lobes_11 : decode cX11_lobes 11 = .ok (.aload_n 0, 1) := by decide +kernel
theorem dX11_lobes_12 : decode cX11_lobes 12 = .ok (.getfield 39, 3) := by decide +kernel
theorem dX11_lobes_15 : decode cX11_lobes 15 = .ok (.iload_n 2, 1) := by decide +kernel
theorem dX11_lobes_16 : decode cX11_lobes 16 = .ok (.invokevirtual 165, 3) := by decide +kernel
theorem dX11_lobes_19 : decode cX11_lobes 19 = .ok (.ifCond .ne 5, 3) := by decide +kernel
theorem dX11_lobes_22 : decode cX11_lobes 22 = .ok (.iconst (-1), 1) := by decide +kernel
theorem dX11_lobes_23 : decode cX11_lobes 23 = .ok (.ireturn, 1) := by decide +kernel
theorem dX11_lobes_24 : decode cX11_lobes 24 = .ok (.aload_n 0, 1) := by decide +kernel
theorem dX11_lobes_25 : decode cX11_lobes 25 = .ok (.getfield 48, 3) := by decide +kernel
theorem dX11_lobes_28 : decode cX11_lobes 28 = .ok (.iload_n 1, 1) := by decide +kernel
theorem dX11_lobes_29 : decode cX11_lobes 29 = .ok (.iload_n 2, 1) := by decide +kernel
theorem dX11_lobes_30 : decode cX11_lobes 30 = .ok (.invokevirtual 173, 3) := by decide +kernel
theorem dX11_lobes_33 : decode cX11_lobes 33 = .ok (.iload_n 3, 1) := by decide +kernel
theorem dX11_lobes_34 : decode cX11_lobes 34 = .ok (.tableswitch 87 0 4 #[34, 43, 52, 61, 70], 34) := by decide +kernel
theorem dX11_lobes_68 : decode cX11_lobes 68 = .ok (.aload_n 0, 1) := by decide +kernel
theorem dX11_lobes_69 : decode cX11_lobes 69 = .ok (.getfield 48, 3) := by decide +kernel
theorem dX11_lobes_72 : decode cX11_lobes 72 = .ok (.iload_n 1, 1) := by decide +kernel
theorem dX11_lobes_73 : decode cX11_lobes 73 = .ok (.invokevirtual 186, 3) := by decide +kernel
theorem dX11_lobes_76 : decode cX11_lobes 76 = .ok (.ireturn, 1) := by decide +kernel
theorem dX11_lobes_77 : decode cX11_lobes 77 = .ok (.aload_n 0, 1) := by decide +kernel
theorem dX11_lobes_78 : decode cX11_lobes 78 = .ok (.getfield 48, 3) := by decide +kernel
theorem dX11_lobes_81 : decode cX11_lobes 81 = .ok (.iload_n 1, 1) := by decide +kernel
theorem dX11_lobes_82 : decode cX11_lobes 82 = .ok (.invokevirtual 189, 3) := by decide +kernel
theorem dX11_lobes_85 : decode cX11_lobes 85 = .ok (.ireturn, 1) := by decide +kernel
theorem dX11_lobes_86 : decode cX11_lobes 86 = .ok (.aload_n 0, 1) := by decide +kernel
theorem dX11_lobes_87 : decode cX11_lobes 87 = .ok (.getfield 48, 3) := by decide +kernel
theorem dX11_lobes_90 : decode cX11_lobes 90 = .ok (.iload_n 1, 1) := by decide +kernel
theorem dX11_lobes_91 : decode cX11_lobes 91 = .ok (.invokevirtual 192, 3) := by decide +kernel
theorem dX11_lobes_94 : decode cX11_lobes 94 = .ok (.ireturn, 1) := by decide +kernel
theorem dX11_lobes_95 : decode cX11_lobes 95 = .ok (.aload_n 0, 1) := by decide +kernel
theorem dX11_lobes_96 : decode cX11_lobes 96 = .ok (.getfield 48, 3) := by decide +kernel
theorem dX11_lobes_99 : decode cX11_lobes 99 = .ok (.iload_n 1, 1) := by decide +kernel
theorem dX11_lobes_100 : decode cX11_lobes 100 = .ok (.invokevirtual 195, 3) := by decide +kernel
theorem dX11_lobes_103 : decode cX11_lobes 103 = .ok (.ireturn, 1) := by decide +kernel
theorem dX11_lobes_104 : decode cX11_lobes 104 = .ok (.aload_n 0, 1) := by decide +kernel
theorem dX11_lobes_105 : decode cX11_lobes 105 = .ok (.getfield 48, 3) := by decide +kernel
theorem dX11_lobes_108 : decode cX11_lobes 108 = .ok (.iload_n 1, 1) := by decide +kernel
theorem dX11_lobes_109 : decode cX11_lobes 109 = .ok (.aload_n 0, 1) := by decide +kernel
theorem dX11_lobes_110 : decode cX11_lobes 110 = .ok (.getfield 48, 3) := by decide +kernel
theorem dX11_lobes_113 : decode cX11_lobes 113 = .ok (.iload_n 1, 1) := by decide +kernel
theorem dX11_lobes_114 : decode cX11_lobes 114 = .ok (.invokevirtual 186, 3) := by decide +kernel
theorem dX11_lobes_117 : decode cX11_lobes 117 = .ok (.invokevirtual 198, 3) := by decide +kernel
theorem dX11_lobes_120 : decode cX11_lobes 120 = .ok (.ireturn, 1) := by decide +kernel
theorem dX11_lobes_121 : decode cX11_lobes 121 = .ok (.iconst (-1), 1) := by decide +kernel
theorem dX11_lobes_122 : decode cX11_lobes 122 = .ok (.ireturn, 1) := by decide +kernel
theorem dX11_hinder_0 : decode cX11_hinder 0 = .ok (.aload_n 0, 1) := by decide +kernel
theorem dX11_hinder_1 : decode cX11_hinder 1 = .ok (.getfield 23, 3) := by decide +kernel
theorem dX11_hinder_4 : decode cX11_hinder 4 = .ok (.iload_n 1, 1) := by decide +kernel
theorem dX11_hinder_5 : decode cX11_hinder 5 = .ok (.invokevirtual 147, 3) := by decide +kernel
theorem dX11_hinder_8 : decode cX11_hinder 8 = .ok (.ifCond .eq 26, 3) := by decide +kernel
theorem dX11_hinder_11 : decode cX11_hinder 11 = .ok (.aload_n 0, 1) := by decide +kernel
theorem dX11_hinder_12 : decode cX11_hinder 12 = .ok (.getfield 23, 3) := by decide +kernel
theorem dX11_hinder_15 : decode cX11_hinder 15 = .ok (.iload_n 2, 1) := by decide +kernel
theorem dX11_hinder_16 : decode cX11_hinder 16 = .ok (.invokevirtual 147, 3) := by decide +kernel
theorem dX11_hinder_19 : decode cX11_hinder 19 = .ok (.ifCond .eq 15, 3) := by decide +kernel
theorem dX11_hinder_22 : decode cX11_hinder 22 = .ok (.aload_n 0, 1) := by decide +kernel
theorem dX11_hinder_23 : decode cX11_hinder 23 = .ok (.getfield 48, 3) := by decide +kernel
theorem dX11_hinder_26 : decode cX11_hinder 26 = .ok (.iload_n 1, 1) := by decide +kernel
theorem dX11_hinder_27 : decode cX11_hinder 27 = .ok (.iload_n 2, 1) := by decide +kernel
theorem dX11_hinder_28 : decode cX11_hinder 28 = .ok (.invokevirtual 201, 3) := by decide +kernel
theorem dX11_hinder_31 : decode cX11_hinder 31 = .ok (.goto 4, 3) := by decide +kernel
theorem dX11_hinder_34 : decode cX11_hinder 34 = .ok (.iconst (-1), 1) := by decide +kernel
theorem dX11_hinder_35 : decode cX11_hinder 35 = .ok (.ireturn, 1) := by decide +kernel
theorem dX11_friends_0 : decode cX11_friends 0 = .ok (.aload_n 0, 1) := by decide +kernel
theorem dX11_friends_1 : decode cX11_friends 1 = .ok (.getfield 23, 3) := by decide +kernel
theorem dX11_friends_4 : decode cX11_friends 4 = .ok (.getfield 204, 3) := by decide +kernel
theorem dX11_friends_7 : decode cX11_friends 7 = .ok (.ifCond .eq 7, 3) := by decide +kernel
theorem dX11_friends_10 : decode cX11_friends 10 = .ok (.iload_n 1, 1) := by decide +kernel
theorem dX11_friends_11 : decode cX11_friends 11 = .ok (.ifCond .ge 7, 3) := by decide +kernel
theorem dX11_friends_14 : decode cX11_friends 14 = .ok (.iconst (-1), 1) := by decide +kernel
theorem dX11_friends_15 : decode cX11_friends 15 = .ok (.goto 11, 3) := by decide +kernel
theorem dX11_friends_18 : decode cX11_friends 18 = .ok (.aload_n 0, 1) := by decide +kernel
theorem dX11_friends_19 : decode cX11_friends 19 = .ok (.getfield 48, 3) := by decide +kernel
theorem dX11_friends_22 : decode cX11_friends 22 = .ok (.iload_n 1, 1) := by decide +kernel
theorem dX11_friends_23 : decode cX11_friends 23 = .ok (.invokevirtual 207, 3) := by decide +kernel
theorem dX11_friends_26 : decode cX11_friends 26 = .ok (.ireturn, 1) := by decide +kernel
theorem dX11_best_0 : decode cX11_best 0 = .ok (.iload_n 1, 1) := by decide +kernel
theorem dX11_best_1 : decode cX11_best 1 = .ok (.iconst 2, 1) := by decide +kernel
theorem dX11_best_2 : decode cX11_best 2 = .ok (.bipush 12, 2) := by decide +kernel
theorem dX11_best_4 : decode cX11_best 4 = .ok (.invokestatic 125, 3) := by decide +kernel
theorem dX11_best_7 : decode cX11_best 7 = .ok (.ifCond .eq 24, 3) := by decide +kernel
theorem dX11_best_10 : decode cX11_best 10 = .ok (.iload_n 2, 1) := by decide +kernel
theorem dX11_best_11 : decode cX11_best 11 = .ok (.iconst 0, 1) := by decide +kernel
theorem dX11_best_12 : decode cX11_best 12 = .ok (.iconst 3, 1) := by decide +kernel
theorem dX11_best_13 : decode cX11_best 13 = .ok (.invokestatic 125, 3) := by decide +kernel
theorem dX11_best_16 : decode cX11_best 16 = .ok (.ifCond .eq 15, 3) := by decide +kernel
theorem dX11_best_19 : decode cX11_best 19 = .ok (.aload_n 0, 1) := by decide +kernel
theorem dX11_best_20 : decode cX11_best 20 = .ok (.getfield 57, 3) := by decide +kernel
theorem dX11_best_23 : decode cX11_best 23 = .ok (.iload_n 1, 1) := by decide +kernel
theorem dX11_best_24 : decode cX11_best 24 = .ok (.iload_n 2, 1) := by decide +kernel
theorem dX11_best_25 : decode cX11_best 25 = .ok (.invokevirtual 210, 3) := by decide +kernel
theorem dX11_best_28 : decode cX11_best 28 = .ok (.goto 4, 3) := by decide +kernel
theorem dX11_best_31 : decode cX11_best 31 = .ok (.iconst (-1), 1) := by decide +kernel
theorem dX11_best_32 : decode cX11_best 32 = .ok (.ireturn, 1) := by decide +kernel
theorem dX11_filter_0 : decode cX11_filter 0 = .ok (.aload_n 0, 1) := by decide +kernel
theorem dX11_filter_1 : decode cX11_filter 1 = .ok (.getfield 23, 3) := by decide +kernel
theorem dX11_filter_4 : decode cX11_filter 4 = .ok (.iload_n 1, 1) := by decide +kernel
theorem dX11_filter_5 : decode cX11_filter 5 = .ok (.invokevirtual 147, 3) := by decide +kernel
theorem dX11_filter_8 : decode cX11_filter 8 = .ok (.ifCond .eq 25, 3) := by decide +kernel
theorem dX11_filter_11 : decode cX11_filter 11 = .ok (.aload_n 0, 1) := by decide +kernel
theorem dX11_filter_12 : decode cX11_filter 12 = .ok (.getfield 23, 3) := by decide +kernel
theorem dX11_filter_15 : decode cX11_filter 15 = .ok (.iload_n 1, 1) := by decide +kernel
theorem dX11_filter_16 : decode cX11_filter 16 = .ok (.invokevirtual 150, 3) := by decide +kernel
theorem dX11_filter_19 : decode cX11_filter 19 = .ok (.bipush 6, 2) := by decide +kernel
theorem dX11_filter_21 : decode cX11_filter 21 = .ok (.if_icmp .gt 12, 3) := by decide +kernel
theorem dX11_filter_24 : decode cX11_filter 24 = .ok (.iload_n 2, 1) := by decide +kernel
theorem dX11_filter_25 : decode cX11_filter 25 = .ok (.iconst 0, 1) := by decide +kernel
theorem dX11_filter_26 : decode cX11_filter 26 = .ok (.iconst 3, 1) := by decide +kernel
theorem dX11_filter_27 : decode cX11_filter 27 = .ok (.invokestatic 125, 3) := by decide +kernel
theorem dX11_filter_30 : decode cX11_filter 30 = .ok (.ifCond .ne 5, 3) := by decide +kernel
theorem dX11_filter_33 : decode cX11_filter 33 = .ok (.iconst (-1), 1) := by decide +kernel
theorem dX11_filter_34 : decode cX11_filter 34 = .ok (.ireturn, 1) := by decide +kernel
theorem dX11_filter_35 : decode cX11_filter 35 = .ok (.aload_n 0, 1) := by decide +kernel
theorem dX11_filter_36 : decode cX11_filter 36 = .ok (.getfield 57, 3) := by decide +kernel
theorem dX11_filter_39 : decode cX11_filter 39 = .ok (.iload_n 1, 1) := by decide +kernel
theorem dX11_filter_40 : decode cX11_filter 40 = .ok (.iload_n 2, 1) := by decide +kernel
theorem dX11_filter_41 : decode cX11_filter 41 = .ok (.invokevirtual 213, 3) := by decide +kernel
theorem dX11_filter_44 : decode cX11_filter 44 = .ok (.ireturn, 1) := by decide +kernel
theorem dX11_set_0 : decode cX11_set 0 = .ok (.iload_n 1, 1) := by decide +kernel
theorem dX11_set_1 : decode cX11_set 1 = .ok (.iconst 0, 1) := by decide +kernel
theorem dX11_set_2 : decode cX11_set 2 = .ok (.iconst 5, 1) := by decide +kernel
theorem dX11_set_3 : decode cX11_set 3 = .ok (.invokestatic 125, 3) := by decide +kernel
theorem dX11_set_6 : decode cX11_set 6 = .ok (.ifCond .eq 20, 3) := by decide +kernel
theorem dX11_set_9 : decode cX11_set 9 = .ok (.iload_n 2, 1) := by decide +kernel
theorem dX11_set_10 : decode cX11_set 10 = .ok (.getstatic 216, 3) := by decide +kernel
theorem dX11_set_13 : decode cX11_set 13 = .ok (.iload_n 1, 1) := by decide +kernel
theorem dX11_set_14 : decode cX11_set 14 = .ok (.iaload, 1) := by decide +kernel
theorem dX11_set_15 : decode cX11_set 15 = .ok (.getstatic 219, 3) := by decide +kernel
theorem dX11_set_18 : decode cX11_set 18 = .ok (.iload_n 1, 1) := by decide +kernel
theorem dX11_set_19 : decode cX11_set 19 = .ok (.iaload, 1) := by decide +kernel
theorem dX11_set_20 : decode cX11_set 20 = .ok (.invokestatic 125, 3) := by decide +kernel
theorem dX11_set_23 : decode cX11_set 23 = .ok (.ifCond .ne 5, 3) := by decide +kernel
theorem dX11_set_26 : decode cX11_set 26 = .ok (.iconst 0, 1) := by decide +kernel
theorem dX11_set_27 : decode cX11_set 27 = .ok (.ireturn, 1) := by decide +kernel
theorem dX11_set_28 : decode cX11_set 28 = .ok (.aload_n 0, 1) := by decide +kernel
theorem dX11_set_29 : decode cX11_set 29 = .ok (.getfield 7, 3) := by decide +kernel
theorem dX11_set_32 : decode cX11_set 32 = .ok (.iload_n 1, 1) := by decide +kernel
theorem dX11_set_33 : decode cX11_set 33 = .ok (.iload_n 2, 1) := by decide +kernel
theorem dX11_set_34 : decode cX11_set 34 = .ok (.iastore, 1) := by decide +kernel
theorem dX11_set_35 : decode cX11_set 35 = .ok (.iconst 1, 1) := by decide +kernel
theorem dX11_set_36 : decode cX11_set 36 = .ok (.ireturn, 1) := by decide +kernel
theorem dX11_seen_0 : decode cX11_seen 0 = .ok (.aload_n 0, 1) := by decide +kernel
theorem dX11_seen_1 : decode cX11_seen 1 = .ok (.getfield 66, 3) := by decide +kernel
theorem dX11_seen_4 : decode cX11_seen 4 = .ok (.iload_n 1, 1) := by decide +kernel
theorem dX11_seen_5 : decode cX11_seen 5 = .ok (.invokevirtual 160, 3) := by decide +kernel
theorem dX11_seen_8 : decode cX11_seen 8 = .ok (.ifCond .eq 14, 3) := by decide +kernel
theorem dX11_seen_11 : decode cX11_seen 11 = .ok (.iload_n 2, 1) := by decide +kernel
theorem dX11_seen_12 : decode cX11_seen 12 = .ok (.iconst 0, 1) := by decide +kernel
theorem dX11_seen_13 : decode cX11_seen 13 = .ok (.sipush 999, 3) := by decide +kernel
theorem dX11_seen_16 : decode cX11_seen 16 = .ok (.invokestatic 125, 3) := by decide +kernel
theorem dX11_seen_19 : decode cX11_seen 19 = .ok (.ifCond .ne 5, 3) := by decide +kernel
theorem dX11_seen_22 : decode cX11_seen 22 = .ok (.iconst (-1), 1) := by decide +kernel
theorem dX11_seen_23 : decode cX11_seen 23 = .ok (.ireturn, 1) := by decide +kernel
theorem dX11_seen_24 : decode cX11_seen 24 = .ok (.aload_n 0, 1) := by decide +kernel
theorem dX11_seen_25 : decode cX11_seen 25 = .ok (.getfield 66, 3) := by decide +kernel
theorem dX11_seen_28 : decode cX11_seen 28 = .ok (.iload_n 1, 1) := by decide +kernel
theorem dX11_seen_29 : decode cX11_seen 29 = .ok (.iload_n 2, 1) := by decide +kernel
theorem dX11_seen_30 : decode cX11_seen 30 = .ok (.invokevirtual 222, 3) := by decide +kernel
theorem dX11_seen_33 : decode cX11_seen 33 = .ok (.ifCond .eq 7, 3) := by decide +kernel
theorem dX11_seen_36 : decode cX11_seen 36 = .ok (.iconst 1, 1) := by decide +kernel
theorem dX11_seen_37 : decode cX11_seen 37 = .ok (.goto 4, 3) := by decide +kernel
theorem dX11_seen_40 : decode cX11_seen 40 = .ok (.iconst 0, 1) := by decide +kernel
theorem dX11_seen_41 : decode cX11_seen 41 = .ok (.ireturn, 1) := by decide +kernel
theorem dX11_map_0 : decode cX11_map 0 = .ok (.aload_n 0, 1) := by decide +kernel
theorem dX11_map_1 : decode cX11_map 1 = .ok (.getfield 66, 3) := by decide +kernel
theorem dX11_map_4 : decode cX11_map 4 = .ok (.iload_n 1, 1) := by decide +kernel
theorem dX11_map_5 : decode cX11_map 5 = .ok (.invokevirtual 160, 3) := by decide +kernel
theorem dX11_map_8 : decode cX11_map 8 = .ok (.ifCond .eq 23, 3) := by decide +kernel
theorem dX11_map_11 : decode cX11_map 11 = .ok (.iload_n 2, 1) := by decide +kernel
theorem dX11_map_12 : decode cX11_map 12 = .ok (.iconst 1, 1) := by decide +kernel
theorem dX11_map_13 : decode cX11_map 13 = .ok (.sipush 999, 3) := by decide +kernel
theorem dX11_map_16 : decode cX11_map 16 = .ok (.invokestatic 125, 3) := by decide +kernel
theorem dX11_map_19 : decode cX11_map 19 = .ok (.ifCond .eq 12, 3) := by decide +kernel
theorem dX11_map_22 : decode cX11_map 22 = .ok (.iload_n 3, 1) := by decide +kernel
theorem dX11_map_23 : decode cX11_map 23 = .ok (.iconst 0, 1) := by decide +kernel
theorem dX11_map_24 : decode cX11_map 24 = .ok (.iconst 1, 1) := by decide +kernel
theorem dX11_map_25 : decode cX11_map 25 = .ok (.invokestatic 125, 3) := by decide +kernel
theorem dX11_map_28 : decode cX11_map 28 = .ok (.ifCond .ne 6, 3) := by decide +kernel
theorem dX11_map_31 : decode cX11_map 31 = .ok (.ldc 168, 2) := by decide +kernel
theorem dX11_map_33 : decode cX11_map 33 = .ok (.ireturn, 1) := by decide +kernel
theorem dX11_map_34 : decode cX11_map 34 = .ok (.iload_n 3, 1) := by decide +kernel
theorem dX11_map_35 : decode cX11_map 35 = .ok (.ifCond .ne 15, 3) := by decide +kernel
theorem dX11_map_38 : decode cX11_map 38 = .ok (.aload_n 0, 1) := by decide +kernel
theorem dX11_map_39 : decode cX11_map 39 = .ok (.getfield 66, 3) := by decide +kernel
theorem dX11_map_42 : decode cX11_map 42 = .ok (.iload_n 1, 1) := by decide +kernel
theorem dX11_map_43 : decode cX11_map 43 = .ok (.iload_n 2, 1) := by decide +kernel
theorem dX11_map_44 : decode cX11_map 44 = .ok (.invokevirtual 226, 3) := by decide +kernel
theorem dX11_map_47 : decode cX11_map 47 = .ok (.goto 12, 3) := by decide +kernel
theorem dX11_map_50 : decode cX11_map 50 = .ok (.aload_n 0, 1) := by decide +kernel
theorem dX11_map_51 : decode cX11_map 51 = .ok (.getfield 66, 3) := by decide +kernel
theorem dX11_map_54 : decode cX11_map 54 = .ok (.iload_n 1, 1) := by decide +kernel
theorem dX11_map_55 : decode cX11_map 55 = .ok (.iload_n 2, 1) := by decide +kernel
theorem dX11_map_56 : decode cX11_map 56 = .ok (.invokevirtual 229, 3) := by decide +kernel
theorem dX11_map_59 : decode cX11_map 59 = .ok (.ireturn, 1) := by decide +kernel
theorem dX11_choice_0 : decode cX11_choice 0 = .ok (.aload_n 0, 1) := by decide +kernel
theorem dX11_choice_1 : decode cX11_choice 1 = .ok (.getfield 66, 3) := by decide +kernel
theorem dX11_choice_4 : decode cX11_choice 4 = .ok (.iload_n 1, 1) := by decide +kernel
theorem dX11_choice_5 : decode cX11_choice 5 = .ok (.invokevirtual 160, 3) := by decide +kernel
theorem dX11_choice_8 : decode cX11_choice 8 = .ok (.ifCond .eq 40, 3) := by decide +kernel
theorem dX11_choice_11 : decode cX11_choice 11 = .ok (.iload_n 2, 1) := by decide +kernel
theorem dX11_choice_12 : decode cX11_choice 12 = .ok (.iconst 1, 1) := by decide +kernel
theorem dX11_choice_13 : decode cX11_choice 13 = .ok (.aload_n 0, 1) := by decide +kernel
theorem dX11_choice_14 : decode cX11_choice 14 = .ok (.getfield 66, 3) := by decide +kernel
theorem dX11_choice_17 : decode cX11_choice 17 = .ok (.iload_n 1, 1) := by decide +kernel
theorem dX11_choice_18 : decode cX11_choice 18 = .ok (.invokevirtual 161, 3) := by decide +kernel
theorem dX11_choice_21 : decode cX11_choice 21 = .ok (.invokestatic 125, 3) := by decide +kernel
theorem dX11_choice_24 : decode cX11_choice 24 = .ok (.ifCond .eq 24, 3) := by decide +kernel
theorem dX11_choice_27 : decode cX11_choice 27 = .ok (.iload_n 3, 1) := by decide +kernel
theorem dX11_choice_28 : decode cX11_choice 28 = .ok (.iconst 1, 1) := by decide +kernel
theorem dX11_choice_29 : decode cX11_choice 29 = .ok (.sipush 999, 3) := by decide +kernel
theorem dX11_choice_32 : decode cX11_choice 32 = .ok (.invokestatic 125, 3) := by decide +kernel
theorem dX11_choice_35 : decode cX11_choice 35 = .ok (.ifCond .eq 13, 3) := by decide +kernel
theorem dX11_choice_38 : decode cX11_choice 38 = .ok (.iload 4, 2) := by decide +kernel
theorem dX11_choice_40 : decode cX11_choice 40 = .ok (.iconst 0, 1) := by decide +kernel
theorem dX11_choice_41 : decode cX11_choice 41 = .ok (.iconst 1, 1) := by decide +kernel
theorem dX11_choice_42 : decode cX11_choice 42 = .ok (.invokestatic 125, 3) := by decide +kernel
theorem dX11_choice_45 : decode cX11_choice 45 = .ok (.ifCond .ne 5, 3) := by decide +kernel
theorem dX11_choice_48 : decode cX11_choice 48 = .ok (.iconst (-1), 1) := by decide +kernel
theorem dX11_choice_49 : decode cX11_choice 49 = .ok (.ireturn, 1) := by decide +kernel
theorem dX11_choice_50 : decode cX11_choice 50 = .ok (.aload_n 0, 1) := by decide +kernel
theorem dX11_choice_51 : decode cX11_choice 51 = .ok (.getfield 66, 3) := by decide +kernel
theorem dX11_choice_54 : decode cX11_choice 54 = .ok (.iload_n 1, 1) := by decide +kernel
theorem dX11_choice_55 : decode cX11_choice 55 = .ok (.iload_n 2, 1) := by decide +kernel
theorem dX11_choice_56 : decode cX11_choice 56 = .ok (.iload_n 3, 1) := by decide +kernel
theorem dX11_choice_57 : decode cX11_choice 57 = .ok (.invokevirtual 232, 3) := by decide +kernel
theorem dX11_choice_60 : decode cX11_choice 60 = .ok (.iload 4, 2) := by decide +kernel
theorem dX11_choice_62 : decode cX11_choice 62 = .ok (.ifCond .ne 13, 3) := by decide +kernel
theorem dX11_choice_65 : decode cX11_choice 65 = .ok (.aload_n 0, 1) := by decide +kernel
theorem dX11_choice_66 : decode cX11_choice 66 = .ok (.getfield 66, 3) := by decide +kernel
theorem dX11_choice_69 : decode cX11_choice 69 = .ok (.getfield 236, 3) := by decide +kernel
theorem dX11_choice_72 : decode cX11_choice 72 = .ok (.goto 10, 3) := by decide +kernel
theorem dX11_choice_75 : decode cX11_choice 75 = .ok (.aload_n 0, 1) := by decide +kernel
theorem dX11_choice_76 : decode cX11_choice 76 = .ok (.getfield 66, 3) := by decide +kernel
theorem dX11_choice_79 : decode cX11_choice 79 = .ok (.getfield 239, 3) := by decide +kernel
theorem dX11_choice_82 : decode cX11_choice 82 = .ok (.ireturn, 1) := by decide +kernel
theorem dX11_read_0 : decode cX11_read 0 = .ok (.aload_n 0, 1) := by decide +kernel
theorem dX11_read_1 : decode cX11_read 1 = .ok (.getfield 66, 3) := by decide +kernel
theorem dX11_read_4 : decode cX11_read 4 = .ok (.iload_n 1, 1) := by decide +kernel
theorem dX11_read_5 : decode cX11_read 5 = .ok (.iload_n 2, 1) := by decide +kernel
theorem dX11_read_6 : decode cX11_read 6 = .ok (.invokevirtual 242, 3) := by decide +kernel
theorem dX11_read_9 : decode cX11_read 9 = .ok (.ireturn, 1) := by decide +kernel
theorem dX11_unfold_0 : decode cX11_unfold 0 = .ok (.aload_n 0, 1) := by decide +kernel
theorem dX11_unfold_1 : decode cX11_unfold 1 = .ok (.getfield 66, 3) := by decide +kernel
theorem dX11_unfold_4 : decode cX11_unfold 4 = .ok (.iload_n 1, 1) := by decide +kernel
theorem dX11_unfold_5 : decode cX11_unfold 5 = .ok (.invokevirtual 160, 3) := by decide +kernel
theorem dX11_unfold_8 : decode cX11_unfold 8 = .ok (.ifCond .eq 41, 3) := by decide +kernel
theorem dX11_unfold_11 : decode cX11_unfold 11 = .ok (.iload_n 2, 1) := by decide +kernel
theorem dX11_unfold_12 : decode cX11_unfold 12 = .ok (.iconst 0, 1) := by decide +kernel
theorem dX11_unfold_13 : decode cX11_unfold 13 = .ok (.sipush 999, 3) := by decide +kernel
theorem dX11_unfold_16 : decode cX11_unfold 16 = .ok (.invokestatic 125, 3) := by decide +kernel
theorem dX11_unfold_19 : decode cX11_unfold 19 = .ok (.ifCond .eq 30, 3) := by decide +kernel
theorem dX11_unfold_22 : decode cX11_unfold 22 = .ok (.iload_n 3, 1) := by decide +kernel
theorem dX11_unfold_23 : decode cX11_unfold 23 = .ok (.iconst 0, 1) := by decide +kernel
theorem dX11_unfold_24 : decode cX11_unfold 24 = .ok (.bipush 8, 2) := by decide +kernel
theorem dX11_unfold_26 : decode cX11_unfold 26 = .ok (.invokestatic 125, 3) := by decide +kernel
theorem dX11_unfold_29 : decode cX11_unfold 29 = .ok (.ifCond .eq 20, 3) := by decide +kernel
theorem dX11_unfold_32 : decode cX11_unfold 32 = .ok (.iload 4, 2) := by decide +kernel
theorem dX11_unfold_34 : decode cX11_unfold 34 = .ok (.iconst 0, 1) := by decide +kernel
theorem dX11_unfold_35 : decode cX11_unfold 35 = .ok (.bipush 9, 2) := by decide +kernel
theorem dX11_unfold_37 : decode cX11_unfold 37 = .ok (.invokestatic 125, 3) := by decide +kernel
theorem dX11_unfold_40 : decode cX11_unfold 40 = .ok (.ifCond .eq 9, 3) := by decide +kernel
theorem dX11_unfold_43 : decode cX11_unfold 43 = .ok (.iload 5, 2) := by decide +kernel
theorem dX11_unfold_45 : decode cX11_unfold 45 = .ok (.iconst (-1), 1) := by decide +kernel
theorem dX11_unfold_46 : decode cX11_unfold 46 = .ok (.if_icmp .ge 5, 3) := by decide +kernel
theorem dX11_unfold_49 : decode cX11_unfold 49 = .ok (.iconst (-1), 1) := by decide +kernel
theorem dX11_unfold_50 : decode cX11_unfold 50 = .ok (.ireturn, 1) := by decide +kernel
theorem dX11_unfold_51 : decode cX11_unfold 51 = .ok (.aload_n 0, 1) := by decide +kernel
theorem dX11_unfold_52 : decode cX11_unfold 52 = .ok (.getfield 66, 3) := by decide +kernel
theorem dX11_unfold_55 : decode cX11_unfold 55 = .ok (.iload_n 1, 1) := by decide +kernel
theorem dX11_unfold_56 : decode cX11_unfold 56 = .ok (.invokevirtual 245, 3) := by decide +kernel
theorem dX11_unfold_59 : decode cX11_unfold 59 = .ok (.ifCond .eq 20, 3) := by decide +kernel
theorem dX11_unfold_62 : decode cX11_unfold 62 = .ok (.aload_n 0, 1) := by decide +kernel
theorem dX11_unfold_63 : decode cX11_unfold 63 = .ok (.getfield 66, 3) := by decide +kernel
theorem dX11_unfold_66 : decode cX11_unfold 66 = .ok (.iload_n 1, 1) := by decide +kernel
theorem dX11_unfold_67 : decode cX11_unfold 67 = .ok (.iload_n 2, 1) := by decide +kernel
theorem dX11_unfold_68 : decode cX11_unfold 68 = .ok (.iload_n 3, 1) := by decide +kernel
theorem dX11_unfold_69 : decode cX11_unfold 69 = .ok (.iload 4, 2) := by decide +kernel
theorem dX11_unfold_71 : decode cX11_unfold 71 = .ok (.iload 5, 2) := by decide +kernel
theorem dX11_unfold_73 : decode cX11_unfold 73 = .ok (.invokevirtual 248, 3) := by decide +kernel
theorem dX11_unfold_76 : decode cX11_unfold 76 = .ok (.goto 5, 3) := by decide +kernel
theorem dX11_unfold_79 : decode cX11_unfold 79 = .ok (.ldc 168, 2) := by decide +kernel
theorem dX11_unfold_81 : decode cX11_unfold 81 = .ok (.ireturn, 1) := by decide +kernel
theorem dX11_ghosts_0 : decode cX11_ghosts 0 = .ok (.aload_n 0, 1) := by decide +kernel
theorem dX11_ghosts_1 : decode cX11_ghosts 1 = .ok (.getfield 66, 3) := by decide +kernel
theorem dX11_ghosts_4 : decode cX11_ghosts 4 = .ok (.iload_n 1, 1) := by decide +kernel
theorem dX11_ghosts_5 : decode cX11_ghosts 5 = .ok (.invokevirtual 160, 3) := by decide +kernel
theorem dX11_ghosts_8 : decode cX11_ghosts 8 = .ok (.ifCond .eq 37, 3) := by decide +kernel
theorem dX11_ghosts_11 : decode cX11_ghosts 11 = .ok (.iload_n 2, 1) := by decide +kernel
theorem dX11_ghosts_12 : decode cX11_ghosts 12 = .ok (.iconst 0, 1) := by decide +kernel
theorem dX11_ghosts_13 : decode cX11_ghosts 13 = .ok (.sipush 999, 3) := by decide +kernel
theorem dX11_ghosts_16 : decode cX11_ghosts 16 = .ok (.invokestatic 125, 3) := by decide +kernel
theorem dX11_ghosts_19 : decode cX11_ghosts 19 = .ok (.ifCond .eq 26, 3) := by decide +kernel
theorem dX11_ghosts_22 : decode cX11_ghosts 22 = .ok (.iload_n 3, 1) := by decide +kernel
theorem dX11_ghosts_23 : decode cX11_ghosts 23 = .ok (.iconst 0, 1) := by decide +kernel
theorem dX11_ghosts_24 : decode cX11_ghosts 24 = .ok (.sipush 999, 3) := by decide +kernel
theorem dX11_ghosts_27 : decode cX11_ghosts 27 = .ok (.invokestatic 125, 3) := by decide +kernel
theorem dX11_ghosts_30 : decode cX11_ghosts 30 = .ok (.ifCond .eq 15, 3) := by decide +kernel
theorem dX11_ghosts_33 : decode cX11_ghosts 33 = .ok (.iload 4, 2) := by decide +kernel
theorem dX11_ghosts_35 : decode cX11_ghosts 35 = .ok (.iconst 0, 1) := by decide +kernel
theorem dX11_ghosts_36 : decode cX11_ghosts 36 = .ok (.sipush 999, 3) := by decide +kernel
theorem dX11_ghosts_39 : decode cX11_ghosts 39 = .ok (.invokestatic 125, 3) := by decide +kernel
theorem dX11_ghosts_42 : decode cX11_ghosts 42 = .ok (.ifCond .ne 5, 3) := by decide +kernel
theorem dX11_ghosts_45 : decode cX11_ghosts 45 = .ok (.iconst (-1), 1) := by decide +kernel
theorem dX11_ghosts_46 : decode cX11_ghosts 46 = .ok (.ireturn, 1) := by decide +kernel
theorem dX11_ghosts_47 : decode cX11_ghosts 47 = .ok (.aload_n 0, 1) := by decide +kernel
theorem dX11_ghosts_48 : decode cX11_ghosts 48 = .ok (.getfield 66, 3) := by decide +kernel
theorem dX11_ghosts_51 : decode cX11_ghosts 51 = .ok (.iload_n 1, 1) := by decide +kernel
theorem dX11_ghosts_52 : decode cX11_ghosts 52 = .ok (.iload_n 2, 1) := by decide +kernel
theorem dX11_ghosts_53 : decode cX11_ghosts 53 = .ok (.iload_n 3, 1) := by decide +kernel
theorem dX11_ghosts_54 : decode cX11_ghosts 54 = .ok (.iload 4, 2) := by decide +kernel
theorem dX11_ghosts_56 : decode cX11_ghosts 56 = .ok (.invokevirtual 252, 3) := by decide +kernel
theorem dX11_ghosts_59 : decode cX11_ghosts 59 = .ok (.ireturn, 1) := by decide +kernel
theorem dX11_cell_0 : decode cX11_cell 0 = .ok (.iload_n 1, 1) := by decide +kernel
theorem dX11_cell_1 : decode cX11_cell 1 = .ok (.invokestatic 255, 3) := by decide +kernel
theorem dX11_cell_4 : decode cX11_cell 4 = .ok (.ifCond .eq 26, 3) := by decide +kernel
theorem dX11_cell_7 : decode cX11_cell 7 = .ok (.aload_n 0, 1) := by decide +kernel
theorem dX11_cell_8 : decode cX11_cell 8 = .ok (.getfield 73, 3) := by decide +kernel
theorem dX11_cell_11 : decode cX11_cell 11 = .ok (.invokevirtual 258, 3) := by decide +kernel
theorem dX11_cell_14 : decode cX11_cell 14 = .ok (.bipush 40, 2) := by decide +kernel
theorem dX11_cell_16 : decode cX11_cell 16 = .ok (.if_icmp .ge 14, 3) := by decide +kernel
theorem dX11_cell_19 : decode cX11_cell 19 = .ok (.aload_n 0, 1) := by decide +kernel
theorem dX11_cell_20 : decode cX11_cell 20 = .ok (.getfield 73, 3) := by decide +kernel
theorem dX11_cell_23 : decode cX11_cell 23 = .ok (.iload_n 1, 1) := by decide +kernel
theorem dX11_cell_24 : decode cX11_cell 24 = .ok (.invokevirtual 260, 3) := by decide +kernel
theorem dX11_cell_27 : decode cX11_cell 27 = .ok (.goto 4, 3) := by decide +kernel
theorem dX11_cell_30 : decode cX11_cell 30 = .ok (.iconst (-1), 1) := by decide +kernel
theorem dX11_cell_31 : decode cX11_cell 31 = .ok (.ireturn, 1) := by decide +kernel
theorem dX11_change_0 : decode cX11_change 0 = .ok (.aload_n 0, 1) := by decide +kernel
theorem dX11_change_1 : decode cX11_change 1 = .ok (.getfield 73, 3) := by decide +kernel
theorem dX11_change_4 : decode cX11_change 4 = .ok (.iload_n 1, 1) := by decide +kernel
theorem dX11_change_5 : decode cX11_change 5 = .ok (.invokevirtual 263, 3) := by decide +kernel
theorem dX11_change_8 : decode cX11_change 8 = .ok (.ifCond .eq 10, 3) := by decide +kernel
theorem dX11_change_11 : decode cX11_change 11 = .ok (.iload_n 2, 1) := by decide +kernel
theorem dX11_change_12 : decode cX11_change 12 = .ok (.invokestatic 255, 3) := by decide +kernel
theorem dX11_change_15 : decode cX11_change 15 = .ok (.ifCond .ne 5, 3) := by decide +kernel
theorem dX11_change_18 : decode cX11_change 18 = .ok (.iconst 0, 1) := by decide +kernel
theorem dX11_change_19 : decode cX11_change 19 = .ok (.ireturn, 1) := by decide +kernel
theorem dX11_change_20 : decode cX11_change 20 = .ok (.aload_n 0, 1) := by decide +kernel
theorem dX11_change_21 : decode cX11_change 21 = .ok (.getfield 73, 3) := by decide +kernel
theorem dX11_change_24 : decode cX11_change 24 = .ok (.iload_n 1, 1) := by decide +kernel
theorem dX11_change_25 : decode cX11_change 25 = .ok (.iload_n 2, 1) := by decide +kernel
theorem dX11_change_26 : decode cX11_change 26 = .ok (.invokevirtual 264, 3) := by decide +kernel
theorem dX11_change_29 : decode cX11_change 29 = .ok (.iconst 1, 1) := by decide +kernel
theorem dX11_change_30 : decode cX11_change 30 = .ok (.ireturn, 1) := by decide +kernel
theorem dX11_draw_0 : decode cX11_draw 0 = .ok (.iload_n 1, 1) := by decide +kernel
theorem dX11_draw_1 : decode cX11_draw 1 = .ok (.iconst 1, 1) := by decide +kernel
theorem dX11_draw_2 : decode cX11_draw 2 = .ok (.bipush 40, 2) := by decide +kernel
theorem dX11_draw_4 : decode cX11_draw 4 = .ok (.invokestatic 125, 3) := by decide +kernel
theorem dX11_draw_7 : decode cX11_draw 7 = .ok (.ifCond .eq 14, 3) := by decide +kernel
theorem dX11_draw_10 : decode cX11_draw 10 = .ok (.iload_n 2, 1) := by decide +kernel
theorem dX11_draw_11 : decode cX11_draw 11 = .ok (.iconst 1, 1) := by decide +kernel
theorem dX11_draw_12 : decode cX11_draw 12 = .ok (.sipush 1000, 3) := by decide +kernel
theorem dX11_draw_15 : decode cX11_draw 15 = .ok (.invokestatic 125, 3) := by decide +kernel
theorem dX11_draw_18 : decode cX11_draw 18 = .ok (.ifCond .ne 5, 3) := by decide +kernel
theorem dX11_draw_21 : decode cX11_draw 21 = .ok (.iconst 0, 1) := by decide +kernel
theorem dX11_draw_22 : decode cX11_draw 22 = .ok (.ireturn, 1) := by decide +kernel
theorem dX11_draw_23 : decode cX11_draw 23 = .ok (.aload_n 0, 1) := by decide +kernel
theorem dX11_draw_24 : decode cX11_draw 24 = .ok (.getfield 73, 3) := by decide +kernel
theorem dX11_draw_27 : decode cX11_draw 27 = .ok (.iload_n 1, 1) := by decide +kernel
theorem dX11_draw_28 : decode cX11_draw 28 = .ok (.iload_n 2, 1) := by decide +kernel
theorem dX11_draw_29 : decode cX11_draw 29 = .ok (.lload_n 3, 1) := by decide +kernel
theorem dX11_draw_30 : decode cX11_draw 30 = .ok (.invokevirtual 266, 3) := by decide +kernel
theorem dX11_draw_33 : decode cX11_draw 33 = .ok (.iconst 1, 1) := by decide +kernel
theorem dX11_draw_34 : decode cX11_draw 34 = .ok (.ireturn, 1) := by decide +kernel
theorem dX11_at_0 : decode cX11_at 0 = .ok (.aload_n 0, 1) := by decide +kernel
theorem dX11_at_1 : decode cX11_at 1 = .ok (.getfield 73, 3) := by decide +kernel
theorem dX11_at_4 : decode cX11_at 4 = .ok (.iload_n 1, 1) := by decide +kernel
theorem dX11_at_5 : decode cX11_at 5 = .ok (.invokevirtual 263, 3) := by decide +kernel
theorem dX11_at_8 : decode cX11_at 8 = .ok (.ifCond .eq 14, 3) := by decide +kernel
theorem dX11_at_11 : decode cX11_at 11 = .ok (.aload_n 0, 1) := by decide +kernel
theorem dX11_at_12 : decode cX11_at 12 = .ok (.getfield 73, 3) := by decide +kernel
theorem dX11_at_15 : decode cX11_at 15 = .ok (.iload_n 1, 1) := by decide +kernel
theorem dX11_at_16 : decode cX11_at 16 = .ok (.invokevirtual 270, 3) := by decide +kernel
theorem dX11_at_19 : decode cX11_at 19 = .ok (.goto 4, 3) := by decide +kernel
theorem dX11_at_22 : decode cX11_at 22 = .ok (.iconst (-1), 1) := by decide +kernel
theorem dX11_at_23 : decode cX11_at 23 = .ok (.ireturn, 1) := by decide +kernel
theorem dX11_undo_0 : decode cX11_undo 0 = .ok (.iload_n 1, 1) := by decide +kernel
theorem dX11_undo_1 : decode cX11_undo 1 = .ok (.ifCond .eq 13, 3) := by decide +kernel
theorem dX11_undo_4 : decode cX11_undo 4 = .ok (.aload_n 0, 1) := by decide +kernel
theorem dX11_undo_5 : decode cX11_undo 5 = .ok (.getfield 73, 3) := by decide +kernel
theorem dX11_undo_8 : decode cX11_undo 8 = .ok (.invokevirtual 273, 3) := by decide +kernel
theorem dX11_undo_11 : decode cX11_undo 11 = .ok (.goto 10, 3) := by decide +kernel
theorem dX11_undo_14 : decode cX11_undo 14 = .ok (.aload_n 0, 1) := by decide +kernel
theorem dX11_undo_15 : decode cX11_undo 15 = .ok (.getfield 73, 3) := by decide +kernel
theorem dX11_undo_18 : decode cX11_undo 18 = .ok (.invokevirtual 276, 3) := by decide +kernel
theorem dX11_undo_21 : decode cX11_undo 21 = .ok (.ireturn, 1) := by decide +kernel
theorem dX11_found_0 : decode cX11_found 0 = .ok (.aload_n 0, 1) := by decide +kernel
theorem dX11_found_1 : decode cX11_found 1 = .ok (.getfield 73, 3) := by decide +kernel
theorem dX11_found_4 : decode cX11_found 4 = .ok (.iload_n 1, 1) := by decide +kernel
theorem dX11_found_5 : decode cX11_found 5 = .ok (.invokevirtual 263, 3) := by decide +kernel
theorem dX11_found_8 : decode cX11_found 8 = .ok (.ifCond .eq 14, 3) := by decide +kernel
theorem dX11_found_11 : decode cX11_found 11 = .ok (.aload_n 0, 1) := by decide +kernel
theorem dX11_found_12 : decode cX11_found 12 = .ok (.getfield 82, 3) := by decide +kernel
theorem dX11_found_15 : decode cX11_found 15 = .ok (.iload_n 1, 1) := by decide +kernel
theorem dX11_found_16 : decode cX11_found 16 = .ok (.invokevirtual 279, 3) := by decide +kernel
theorem dX11_found_19 : decode cX11_found 19 = .ok (.goto 4, 3) := by decide +kernel
theorem dX11_found_22 : decode cX11_found 22 = .ok (.iconst (-1), 1) := by decide +kernel
theorem dX11_found_23 : decode cX11_found 23 = .ok (.ireturn, 1) := by decide +kernel
theorem dX11_alarms_0 : decode cX11_alarms 0 = .ok (.aload_n 0, 1) := by decide +kernel
theorem dX11_alarms_1 : decode cX11_alarms 1 = .ok (.getfield 82, 3) := by decide +kernel
theorem dX11_alarms_4 : decode cX11_alarms 4 = .ok (.invokevirtual 282, 3) := by decide +kernel
theorem dX11_alarms_7 : decode cX11_alarms 7 = .ok (.ireturn, 1) := by decide +kernel
theorem dX11_share_0 : decode cX11_share 0 = .ok (.iload_n 1, 1) := by decide +kernel
theorem dX11_share_1 : decode cX11_share 1 = .ok (.iload_n 2, 1) := by decide +kernel
theorem dX11_share_2 : decode cX11_share 2 = .ok (.iload_n 3, 1) := by decide +kernel
theorem dX11_share_3 : decode cX11_share 3 = .ok (.invokestatic 285, 3) := by decide +kernel
theorem dX11_share_6 : decode cX11_share 6 = .ok (.ifCond .eq 24, 3) := by decide +kernel
theorem dX11_share_9 : decode cX11_share 9 = .ok (.iload 4, 2) := by decide +kernel
theorem dX11_share_11 : decode cX11_share 11 = .ok (.iconst 0, 1) := by decide +kernel
theorem dX11_share_12 : decode cX11_share 12 = .ok (.bipush 99, 2) := by decide +kernel
theorem dX11_share_14 : decode cX11_share 14 = .ok (.invokestatic 125, 3) := by decide +kernel
theorem dX11_share_17 : decode cX11_share 17 = .ok (.ifCond .eq 13, 3) := by decide +kernel
theorem dX11_share_20 : decode cX11_share 20 = .ok (.iload 5, 2) := by decide +kernel
theorem dX11_share_22 : decode cX11_share 22 = .ok (.iconst 0, 1) := by decide +kernel
theorem dX11_share_23 : decode cX11_share 23 = .ok (.iconst 1, 1) := by decide +kernel
theorem dX11_share_24 : decode cX11_share 24 = .ok (.invokestatic 125, 3) := by decide +kernel
theorem dX11_share_27 : decode cX11_share 27 = .ok (.ifCond .ne 7, 3) := by decide +kernel
theorem dX11_share_30 : decode cX11_share 30 = .ok (.ldc2_w 288, 3) := by decide +kernel
theorem dX11_share_33 : decode cX11_share 33 = .ok (.lreturn, 1) := by decide +kernel
theorem dX11_share_34 : decode cX11_share 34 = .ok (.aload_n 0, 1) := by decide +kernel
theorem dX11_share_35 : decode cX11_share 35 = .ok (.getfield 89, 3) := by decide +kernel
theorem dX11_share_38 : decode cX11_share 38 = .ok (.iload_n 1, 1) := by decide +kernel
theorem dX11_share_39 : decode cX11_share 39 = .ok (.iload_n 2, 1) := by decide +kernel
theorem dX11_share_40 : decode cX11_share 40 = .ok (.iload_n 3, 1) := by decide +kernel
theorem dX11_share_41 : decode cX11_share 41 = .ok (.invokevirtual 290, 3) := by decide +kernel
theorem dX11_share_44 : decode cX11_share 44 = .ok (.iload 5, 2) := by decide +kernel
theorem dX11_share_46 : decode cX11_share 46 = .ok (.ifCond .ne 15, 3) := by decide +kernel
theorem dX11_share_49 : decode cX11_share 49 = .ok (.aload_n 0, 1) := by decide +kernel
theorem dX11_share_50 : decode cX11_share 50 = .ok (.getfield 89, 3) := by decide +kernel
theorem dX11_share_53 : decode cX11_share 53 = .ok (.iload 4, 2) := by decide +kernel
theorem dX11_share_55 : decode cX11_share 55 = .ok (.invokevirtual 292, 3) := by decide +kernel
theorem dX11_share_58 : decode cX11_share 58 = .ok (.goto 12, 3) := by decide +kernel
theorem dX11_share_61 : decode cX11_share 61 = .ok (.aload_n 0, 1) := by decide +kernel
theorem dX11_share_62 : decode cX11_share 62 = .ok (.getfield 89, 3) := by decide +kernel
theorem dX11_share_65 : decode cX11_share 65 = .ok (.iload 4, 2) := by decide +kernel
theorem dX11_share_67 : decode cX11_share 67 = .ok (.invokevirtual 296, 3) := by decide +kernel
theorem dX11_share_70 : decode cX11_share 70 = .ok (.lreturn, 1) := by decide +kernel
theorem dX11_beam_0 : decode cX11_beam 0 = .ok (.iload_n 1, 1) := by decide +kernel
theorem dX11_beam_1 : decode cX11_beam 1 = .ok (.iconst 1, 1) := by decide +kernel
theorem dX11_beam_2 : decode cX11_beam 2 = .ok (.bipush 20, 2) := by decide +kernel
theorem dX11_beam_4 : decode cX11_beam 4 = .ok (.invokestatic 125, 3) := by decide +kernel
theorem dX11_beam_7 : decode cX11_beam 7 = .ok (.ifCond .eq 23, 3) := by decide +kernel
theorem dX11_beam_10 : decode cX11_beam 10 = .ok (.iload_n 2, 1) := by decide +kernel
theorem dX11_beam_11 : decode cX11_beam 11 = .ok (.iconst 1, 1) := by decide +kernel
theorem dX11_beam_12 : decode cX11_beam 12 = .ok (.bipush 99, 2) := by decide +kernel
theorem dX11_beam_14 : decode cX11_beam 14 = .ok (.invokestatic 125, 3) := by decide +kernel
theorem dX11_beam_17 : decode cX11_beam 17 = .ok (.ifCond .eq 13, 3) := by decide +kernel
theorem dX11_beam_20 : decode cX11_beam 20 = .ok (.iload_n 3, 1) := by decide +kernel
theorem dX11_beam_21 : decode cX11_beam 21 = .ok (.iconst 0, 1) := by decide +kernel
theorem dX11_beam_22 : decode cX11_beam 22 = .ok (.bipush 99, 2) := by decide +kernel
theorem dX11_beam_24 : decode cX11_beam 24 = .ok (.invokestatic 125, 3) := by decide +kernel
theorem dX11_beam_27 : decode cX11_beam 27 = .ok (.ifCond .ne 5, 3) := by decide +kernel
theorem dX11_beam_30 : decode cX11_beam 30 = .ok (.iconst (-1), 1) := by decide +kernel
theorem dX11_beam_31 : decode cX11_beam 31 = .ok (.ireturn, 1) := by decide +kernel
theorem dX11_beam_32 : decode cX11_beam 32 = .ok (.aload_n 0, 1) := by decide +kernel
theorem dX11_beam_33 : decode cX11_beam 33 = .ok (.getfield 96, 3) := by decide +kernel
theorem dX11_beam_36 : decode cX11_beam 36 = .ok (.iload_n 1, 1) := by decide +kernel
theorem dX11_beam_37 : decode cX11_beam 37 = .ok (.iload_n 2, 1) := by decide +kernel
theorem dX11_beam_38 : decode cX11_beam 38 = .ok (.iload_n 3, 1) := by decide +kernel
theorem dX11_beam_39 : decode cX11_beam 39 = .ok (.invokevirtual 299, 3) := by decide +kernel
theorem dX11_beam_42 : decode cX11_beam 42 = .ok (.ireturn, 1) := by decide +kernel
theorem dX11_plan_0 : decode cX11_plan 0 = .ok (.aload_n 0, 1) := by decide +kernel
theorem dX11_plan_1 : decode cX11_plan 1 = .ok (.getfield 96, 3) := by decide +kernel
theorem dX11_plan_4 : decode cX11_plan 4 = .ok (.getfield 302, 3) := by decide +kernel
theorem dX11_plan_7 : decode cX11_plan 7 = .ok (.ifCond .eq 12, 3) := by decide +kernel
theorem dX11_plan_10 : decode cX11_plan 10 = .ok (.iload_n 1, 1) := by decide +kernel
theorem dX11_plan_11 : decode cX11_plan 11 = .ok (.iconst 0, 1) := by decide +kernel
theorem dX11_plan_12 : decode cX11_plan 12 = .ok (.iconst 1, 1) := by decide +kernel
theorem dX11_plan_13 : decode cX11_plan 13 = .ok (.invokestatic 125, 3) := by decide +kernel
theorem dX11_plan_16 : decode cX11_plan 16 = .ok (.ifCond .ne 5, 3) := by decide +kernel
theorem dX11_plan_19 : decode cX11_plan 19 = .ok (.iconst (-1), 1) := by decide +kernel
theorem dX11_plan_20 : decode cX11_plan 20 = .ok (.ireturn, 1) := by decide +kernel
theorem dX11_plan_21 : decode cX11_plan 21 = .ok (.aload_n 0, 1) := by decide +kernel
theorem dX11_plan_22 : decode cX11_plan 22 = .ok (.getfield 96, 3) := by decide +kernel
theorem dX11_plan_25 : decode cX11_plan 25 = .ok (.invokevirtual 303, 3) := by decide +kernel
theorem dX11_plan_28 : decode cX11_plan 28 = .ok (.istore_n 2, 1) := by decide +kernel
theorem dX11_plan_29 : decode cX11_plan 29 = .ok (.iload_n 1, 1) := by decide +kernel
theorem dX11_plan_30 : decode cX11_plan 30 = .ok (.ifCond .ne 14, 3) := by decide +kernel
theorem dX11_plan_33 : decode cX11_plan 33 = .ok (.aload_n 0, 1) := by decide +kernel
theorem dX11_plan_34 : decode cX11_plan 34 = .ok (.getfield 96, 3) := by decide +kernel
theorem dX11_plan_37 : decode cX11_plan 37 = .ok (.iload_n 2, 1) := by decide +kernel
theorem dX11_plan_38 : decode cX11_plan 38 = .ok (.invokevirtual 306, 3) := by decide +kernel
theorem dX11_plan_41 : decode cX11_plan 41 = .ok (.goto 4, 3) := by decide +kernel
theorem dX11_plan_44 : decode cX11_plan 44 = .ok (.iload_n 2, 1) := by decide +kernel
theorem dX11_plan_45 : decode cX11_plan 45 = .ok (.ireturn, 1) := by decide +kernel
theorem dX11_like_0 : decode cX11_like 0 = .ok (.aload_n 0, 1) := by decide +kernel
theorem dX11_like_1 : decode cX11_like 1 = .ok (.getfield 23, 3) := by decide +kernel
theorem dX11_like_4 : decode cX11_like 4 = .ok (.iload_n 1, 1) := by decide +kernel
theorem dX11_like_5 : decode cX11_like 5 = .ok (.invokevirtual 147, 3) := by decide +kernel
theorem dX11_like_8 : decode cX11_like 8 = .ok (.ifCond .eq 14, 3) := by decide +kernel
theorem dX11_like_11 : decode cX11_like 11 = .ok (.aload_n 0, 1) := by decide +kernel
theorem dX11_like_12 : decode cX11_like 12 = .ok (.getfield 23, 3) := by decide +kernel
theorem dX11_like_15 : decode cX11_like 15 = .ok (.iload_n 2, 1) := by decide +kernel
theorem dX11_like_16 : decode cX11_like 16 = .ok (.invokevirtual 147, 3) := by decide +kernel
theorem dX11_like_19 : decode cX11_like 19 = .ok (.ifCond .ne 5, 3) := by decide +kernel
theorem dX11_like_22 : decode cX11_like 22 = .ok (.iconst (-1), 1) := by decide +kernel
theorem dX11_like_23 : decode cX11_like 23 = .ok (.ireturn, 1) := by decide +kernel
theorem dX11_like_24 : decode cX11_like 24 = .ok (.aload_n 0, 1) := by decide +kernel
theorem dX11_like_25 : decode cX11_like 25 = .ok (.getfield 23, 3) := by decide +kernel
theorem dX11_like_28 : decode cX11_like 28 = .ok (.iload_n 1, 1) := by decide +kernel
theorem dX11_like_29 : decode cX11_like 29 = .ok (.iload_n 2, 1) := by decide +kernel
theorem dX11_like_30 : decode cX11_like 30 = .ok (.invokevirtual 309, 3) := by decide +kernel
theorem dX11_like_33 : decode cX11_like 33 = .ok (.ifCond .eq 7, 3) := by decide +kernel
theorem dX11_like_36 : decode cX11_like 36 = .ok (.iconst 1, 1) := by decide +kernel
theorem dX11_like_37 : decode cX11_like 37 = .ok (.goto 4, 3) := by decide +kernel
theorem dX11_like_40 : decode cX11_like 40 = .ok (.iconst 0, 1) := by decide +kernel
theorem dX11_like_41 : decode cX11_like 41 = .ok (.ireturn, 1) := by decide +kernel
theorem dX11_partners_0 : decode cX11_partners 0 = .ok (.aload_n 0, 1) := by decide +kernel
theorem dX11_partners_1 : decode cX11_partners 1 = .ok (.getfield 23, 3) := by decide +kernel
theorem dX11_partners_4 : decode cX11_partners 4 = .ok (.iload_n 1, 1) := by decide +kernel
theorem dX11_partners_5 : decode cX11_partners 5 = .ok (.invokevirtual 147, 3) := by decide +kernel
theorem dX11_partners_8 : decode cX11_partners 8 = .ok (.ifCond .eq 33, 3) := by decide +kernel
theorem dX11_partners_11 : decode cX11_partners 11 = .ok (.aload_n 0, 1) := by decide +kernel
theorem dX11_partners_12 : decode cX11_partners 12 = .ok (.getfield 23, 3) := by decide +kernel
theorem dX11_partners_15 : decode cX11_partners 15 = .ok (.iload_n 2, 1) := by decide +kernel
theorem dX11_partners_16 : decode cX11_partners 16 = .ok (.invokevirtual 147, 3) := by decide +kernel
theorem dX11_partners_19 : decode cX11_partners 19 = .ok (.ifCond .eq 22, 3) := by decide +kernel
theorem dX11_partners_22 : decode cX11_partners 22 = .ok (.aload_n 0, 1) := by decide +kernel
theorem dX11_partners_23 : decode cX11_partners 23 = .ok (.getfield 23, 3) := by decide +kernel
theorem dX11_partners_26 : decode cX11_partners 26 = .ok (.iload_n 1, 1) := by decide +kernel
theorem dX11_partners_27 : decode cX11_partners 27 = .ok (.invokevirtual 150, 3) := by decide +kernel
theorem dX11_partners_30 : decode cX11_partners 30 = .ok (.aload_n 0, 1) := by decide +kernel
theorem dX11_partners_31 : decode cX11_partners 31 = .ok (.getfield 23, 3) := by decide +kernel
theorem dX11_partners_34 : decode cX11_partners 34 = .ok (.iload_n 2, 1) := by decide +kernel
theorem dX11_partners_35 : decode cX11_partners 35 = .ok (.invokevirtual 150, 3) := by decide +kernel
theorem dX11_partners_38 : decode cX11_partners 38 = .ok (.if_icmp .eq 5, 3) := by decide +kernel
theorem dX11_partners_41 : decode cX11_partners 41 = .ok (.iconst (-1), 1) := by decide +kernel
theorem dX11_partners_42 : decode cX11_partners 42 = .ok (.ireturn, 1) := by decide +kernel
theorem dX11_partners_43 : decode cX11_partners 43 = .ok (.aload_n 0, 1) := by decide +kernel
theorem dX11_partners_44 : decode cX11_partners 44 = .ok (.getfield 48, 3) := by decide +kernel
theorem dX11_partners_47 : decode cX11_partners 47 = .ok (.iload_n 1, 1) := by decide +kernel
theorem dX11_partners_48 : decode cX11_partners 48 = .ok (.iload_n 2, 1) := by decide +kernel
theorem dX11_partners_49 : decode cX11_partners 49 = .ok (.invokevirtual 312, 3) := by decide +kernel
theorem dX11_partners_52 : decode cX11_partners 52 = .ok (.ireturn, 1) := by decide +kernel
theorem dX11_cancel_0 : decode cX11_cancel 0 = .ok (.iload_n 1, 1) := by decide +kernel
theorem dX11_cancel_1 : decode cX11_cancel 1 = .ok (.iconst 1, 1) := by decide +kernel
theorem dX11_cancel_2 : decode cX11_cancel 2 = .ok (.bipush 8, 2) := by decide +kernel
theorem dX11_cancel_4 : decode cX11_cancel 4 = .ok (.invokestatic 125, 3) := by decide +kernel
theorem dX11_cancel_7 : decode cX11_cancel 7 = .ok (.ifCond .eq 12, 3) := by decide +kernel
theorem dX11_cancel_10 : decode cX11_cancel 10 = .ok (.iload_n 2, 1) := by decide +kernel
theorem dX11_cancel_11 : decode cX11_cancel 11 = .ok (.iconst 0, 1) := by decide +kernel
theorem dX11_cancel_12 : decode cX11_cancel 12 = .ok (.iconst 3, 1) := by decide +kernel
theorem dX11_cancel_13 : decode cX11_cancel 13 = .ok (.invokestatic 125, 3) := by decide +kernel
theorem dX11_cancel_16 : decode cX11_cancel 16 = .ok (.ifCond .ne 5, 3) := by decide +kernel
theorem dX11_cancel_19 : decode cX11_cancel 19 = .ok (.iconst (-1), 1) := by decide +kernel
theorem dX11_cancel_20 : decode cX11_cancel 20 = .ok (.ireturn, 1) := by decide +kernel
theorem dX11_cancel_21 : decode cX11_cancel 21 = .ok (.iload_n 2, 1) := by decide +kernel
theorem dX11_cancel_22 : decode cX11_cancel 22 = .ok (.ifCond .ne 5, 3) := by decide +kernel
theorem dX11_cancel_25 : decode cX11_cancel 25 = .ok (.iconst 0, 1) := by decide +kernel
theorem dX11_cancel_26 : decode cX11_cancel 26 = .ok (.ireturn, 1) := by decide +kernel
theorem dX11_cancel_27 : decode cX11_cancel 27 = .ok (.iload_n 2, 1) := by decide +kernel
theorem dX11_cancel_28 : decode cX11_cancel 28 = .ok (.iconst 2, 1) := by decide +kernel
theorem dX11_cancel_29 : decode cX11_cancel 29 = .ok (.if_icmp .ne 11, 3) := by decide +kernel
theorem dX11_cancel_32 : decode cX11_cancel 32 = .ok (.iconst 1, 1) := by decide +kernel
theorem dX11_cancel_33 : decode cX11_cancel 33 = .ok (.iconst 2, 1) := by decide +kernel
theorem dX11_cancel_34 : decode cX11_cancel 34 = .ok (.iload_n 1, 1) := by decide +kernel
theorem dX11_cancel_35 : decode cX11_cancel 35 = .ok (.imul, 1) := by decide +kernel
theorem dX11_cancel_36 : decode cX11_cancel 36 = .ok (.ishl, 1) := by decide +kernel
theorem dX11_cancel_37 : decode cX11_cancel 37 = .ok (.goto 6, 3) := by decide +kernel
theorem dX11_cancel_40 : decode cX11_cancel 40 = .ok (.iconst 1, 1) := by decide +kernel
theorem dX11_cancel_41 : decode cX11_cancel 41 = .ok (.iload_n 1, 1) := by decide +kernel
theorem dX11_cancel_42 : decode cX11_cancel 42 = .ok (.ishl, 1) := by decide +kernel
theorem dX11_cancel_43 : decode cX11_cancel 43 = .ok (.ireturn, 1) := by decide +kernel
theorem dX11_stagger_0 : decode cX11_stagger 0 = .ok (.iload_n 1, 1) := by decide +kernel
theorem dX11_stagger_1 : decode cX11_stagger 1 = .ok (.iconst 1, 1) := by decide +kernel
theorem dX11_stagger_2 : decode cX11_stagger 2 = .ok (.iconst 3, 1) := by decide +kernel
theorem dX11_stagger_3 : decode cX11_stagger 3 = .ok (.invokestatic 125, 3) := by decide +kernel
theorem dX11_stagger_6 : decode cX11_stagger 6 = .ok (.ifCond .eq 54, 3) := by decide +kernel
theorem dX11_stagger_9 : decode cX11_stagger 9 = .ok (.iload_n 2, 1) := by decide +kernel
theorem dX11_stagger_10 : decode cX11_stagger 10 = .ok (.iconst 2, 1) := by decide +kernel
theorem dX11_stagger_11 : decode cX11_stagger 11 = .ok (.bipush 30, 2) := by decide +kernel
theorem dX11_stagger_13 : decode cX11_stagger 13 = .ok (.invokestatic 125, 3) := by decide +kernel
theorem dX11_stagger_16 : decode cX11_stagger 16 = .ok (.ifCond .eq 44, 3) := by decide +kernel
theorem dX11_stagger_19 : decode cX11_stagger 19 = .ok (.iload_n 3, 1) := by decide +kernel
theorem dX11_stagger_20 : decode cX11_stagger 20 = .ok (.iconst 2, 1) := by decide +kernel
theorem dX11_stagger_21 : decode cX11_stagger 21 = .ok (.bipush 30, 2) := by decide +kernel
theorem dX11_stagger_23 : decode cX11_stagger 23 = .ok (.invokestatic 125, 3) := by decide +kernel
theorem dX11_stagger_26 : decode cX11_stagger 26 = .ok (.ifCond .eq 34, 3) := by decide +kernel
theorem dX11_stagger_29 : decode cX11_stagger 29 = .ok (.iload_n 3, 1) := by decide +kernel
theorem dX11_stagger_30 : decode cX11_stagger 30 = .ok (.iload_n 2, 1) := by decide +kernel
theorem dX11_stagger_31 : decode cX11_stagger 31 = .ok (.isub, 1) := by decide +kernel
theorem dX11_stagger_32 : decode cX11_stagger 32 = .ok (.iconst 1, 1) := by decide +kernel
theorem dX11_stagger_33 : decode cX11_stagger 33 = .ok (.iadd, 1) := by decide +kernel
theorem dX11_stagger_34 : decode cX11_stagger 34 = .ok (.iload_n 1, 1) := by decide +kernel
theorem dX11_stagger_35 : decode cX11_stagger 35 = .ok (.if_icmp .lt 25, 3) := by decide +kernel
theorem dX11_stagger_38 : decode cX11_stagger 38 = .ok (.iload 4, 2) := by decide +kernel
theorem dX11_stagger_40 : decode cX11_stagger 40 = .ok (.iconst 1, 1) := by decide +kernel
theorem dX11_stagger_41 : decode cX11_stagger 41 = .ok (.sipush 300, 3) := by decide +kernel
theorem dX11_stagger_44 : decode cX11_stagger 44 = .ok (.invokestatic 125, 3) := by decide +kernel
theorem dX11_stagger_47 : decode cX11_stagger 47 = .ok (.ifCond .eq 13, 3) := by decide +kernel
theorem dX11_stagger_50 : decode cX11_stagger 50 = .ok (.iload 5, 2) := by decide +kernel
theorem dX11_stagger_52 : decode cX11_stagger 52 = .ok (.iconst 0, 1) := by decide +kernel
theorem dX11_stagger_53 : decode cX11_stagger 53 = .ok (.iconst 1, 1) := by decide +kernel
theorem dX11_stagger_54 : decode cX11_stagger 54 = .ok (.invokestatic 125, 3) := by decide +kernel
theorem dX11_stagger_57 : decode cX11_stagger 57 = .ok (.ifCond .ne 5, 3) := by decide +kernel
theorem dX11_stagger_60 : decode cX11_stagger 60 = .ok (.iconst (-1), 1) := by decide +kernel
theorem dX11_stagger_61 : decode cX11_stagger 61 = .ok (.ireturn, 1) := by decide +kernel
theorem dX11_stagger_62 : decode cX11_stagger 62 = .ok (.aload_n 0, 1) := by decide +kernel
theorem dX11_stagger_63 : decode cX11_stagger 63 = .ok (.getfield 66, 3) := by decide +kernel
theorem dX11_stagger_66 : decode cX11_stagger 66 = .ok (.iload_n 1, 1) := by decide +kernel
theorem dX11_stagger_67 : decode cX11_stagger 67 = .ok (.iload_n 2, 1) := by decide +kernel
theorem dX11_stagger_68 : decode cX11_stagger 68 = .ok (.iload_n 3, 1) := by decide +kernel
theorem dX11_stagger_69 : decode cX11_stagger 69 = .ok (.iload 4, 2) := by decide +kernel
theorem dX11_stagger_71 : decode cX11_stagger 71 = .ok (.invokevirtual 315, 3) := by decide +kernel
theorem dX11_stagger_74 : decode cX11_stagger 74 = .ok (.iload 5, 2) := by decide +kernel
theorem dX11_stagger_76 : decode cX11_stagger 76 = .ok (.ifCond .ne 13, 3) := by decide +kernel
theorem dX11_stagger_79 : decode cX11_stagger 79 = .ok (.aload_n 0, 1) := by decide +kernel
theorem dX11_stagger_80 : decode cX11_stagger 80 = .ok (.getfield 66, 3) := by decide +kernel
theorem dX11_stagger_83 : decode cX11_stagger 83 = .ok (.getfield 236, 3) := by decide +kernel
theorem dX11_stagger_86 : decode cX11_stagger 86 = .ok (.goto 10, 3) := by decide +kernel
theorem dX11_stagger_89 : decode cX11_stagger 89 = .ok (.aload_n 0, 1) := by decide +kernel
theorem dX11_stagger_90 : decode cX11_stagger 90 = .ok (.getfield 66, 3) := by decide +kernel
theorem dX11_stagger_93 : decode cX11_stagger 93 = .ok (.getfield 239, 3) := by decide +kernel
theorem dX11_stagger_96 : decode cX11_stagger 96 = .ok (.ireturn, 1) := by decide +kernel
theorem dX11_factor_0 : decode cX11_factor 0 = .ok (.iload_n 1, 1) := by decide +kernel
theorem dX11_factor_1 : decode cX11_factor 1 = .ok (.iload_n 2, 1) := by decide +kernel
theorem dX11_factor_2 : decode cX11_factor 2 = .ok (.iload_n 3, 1) := by decide +kernel
theorem dX11_factor_3 : decode cX11_factor 3 = .ok (.invokestatic 285, 3) := by decide +kernel
theorem dX11_factor_6 : decode cX11_factor 6 = .ok (.ifCond .eq 18, 3) := by decide +kernel
theorem dX11_factor_9 : decode cX11_factor 9 = .ok (.iload 4, 2) := by decide +kernel
theorem dX11_factor_11 : decode cX11_factor 11 = .ok (.ifCond .lt 13, 3) := by decide +kernel
theorem dX11_factor_14 : decode cX11_factor 14 = .ok (.iload 4, 2) := by decide +kernel
theorem dX11_factor_16 : decode cX11_factor 16 = .ok (.i2l, 1) := by decide +kernel
theorem dX11_factor_17 : decode cX11_factor 17 = .ok (.ldc2_w 319, 3) := by decide +kernel
theorem dX11_factor_20 : decode cX11_factor 20 = .ok (.lcmp, 1) := by decide +kernel
theorem dX11_factor_21 : decode cX11_factor 21 = .ok (.ifCond .le 5, 3) := by decide +kernel
theorem dX11_factor_24 : decode cX11_factor 24 = .ok (.iconst (-1), 1) := by decide +kernel
theorem dX11_factor_25 : decode cX11_factor 25 = .ok (.ireturn, 1) := by decide +kernel
theorem dX11_factor_26 : decode cX11_factor 26 = .ok (.aload_n 0, 1) := by decide +kernel
theorem dX11_factor_27 : decode cX11_factor 27 = .ok (.getfield 89, 3) := by decide +kernel
theorem dX11_factor_30 : decode cX11_factor 30 = .ok (.iload_n 1, 1) := by decide +kernel
theorem dX11_factor_31 : decode cX11_factor 31 = .ok (.iload_n 2, 1) := by decide +kernel
theorem dX11_factor_32 : decode cX11_factor 32 = .ok (.iload_n 3, 1) := by decide +kernel
theorem dX11_factor_33 : decode cX11_factor 33 = .ok (.invokevirtual 290, 3) := by decide +kernel
theorem dX11_factor_36 : decode cX11_factor 36 = .ok (.aload_n 0, 1) := by decide +kernel
theorem dX11_factor_37 : decode cX11_factor 37 = .ok (.getfield 89, 3) := by decide +kernel
theorem dX11_factor_40 : decode cX11_factor 40 = .ok (.iload 4, 2) := by decide +kernel
theorem dX11_factor_42 : decode cX11_factor 42 = .ok (.invokevirtual 321, 3) := by decide +kernel
theorem dX11_factor_45 : decode cX11_factor 45 = .ok (.ireturn, 1) := by decide +kernel
theorem dX11_heaps_0 : decode cX11_heaps 0 = .ok (.iload_n 1, 1) := by decide +kernel
theorem dX11_heaps_1 : decode cX11_heaps 1 = .ok (.iconst 0, 1) := by decide +kernel
theorem dX11_heaps_2 : decode cX11_heaps 2 = .ok (.iconst 2, 1) := by decide +kernel
theorem dX11_heaps_3 : decode cX11_heaps 3 = .ok (.invokestatic 125, 3) := by decide +kernel
theorem dX11_heaps_6 : decode cX11_heaps 6 = .ok (.ifCond .eq 14, 3) := by decide +kernel
theorem dX11_heaps_9 : decode cX11_heaps 9 = .ok (.aload_n 0, 1) := by decide +kernel
theorem dX11_heaps_10 : decode cX11_heaps 10 = .ok (.getfield 82, 3) := by decide +kernel
theorem dX11_heaps_13 : decode cX11_heaps 13 = .ok (.iload_n 1, 1) := by decide +kernel
theorem dX11_heaps_14 : decode cX11_heaps 14 = .ok (.invokevirtual 324, 3) := by decide +kernel
theorem dX11_heaps_17 : decode cX11_heaps 17 = .ok (.goto 5, 3) := by decide +kernel
theorem dX11_heaps_20 : decode cX11_heaps 20 = .ok (.ldc 168, 2) := by decide +kernel
theorem dX11_heaps_22 : decode cX11_heaps 22 = .ok (.ireturn, 1) := by decide +kernel
theorem dX11_image_0 : decode cX11_image 0 = .ok (.aload_n 0, 1) := by decide +kernel
theorem dX11_image_1 : decode cX11_image 1 = .ok (.getfield 73, 3) := by decide +kernel
theorem dX11_image_4 : decode cX11_image 4 = .ok (.invokevirtual 327, 3) := by decide +kernel
theorem dX11_image_7 : decode cX11_image 7 = .ok (.ireturn, 1) := by decide +kernel
theorem dX11_back_0 : decode cX11_back 0 = .ok (.aload_n 0, 1) := by decide +kernel
theorem dX11_back_1 : decode cX11_back 1 = .ok (.getfield 73, 3) := by decide +kernel
theorem dX11_back_4 : decode cX11_back 4 = .ok (.invokevirtual 330, 3) := by decide +kernel
theorem dX11_back_7 : decode cX11_back 7 = .ok (.ireturn, 1) := by decide +kernel
theorem dX11_count_0 : decode cX11_count 0 = .ok (.iload_n 1, 1) := by decide +kernel
theorem dX11_count_1 : decode cX11_count 1 = .ok (.tableswitch 111 0 7 #[47, 55, 63, 71, 79, 87, 95, 103], 47) := by decide +kernel
theorem dX11_count_48 : decode cX11_count 48 = .ok (.aload_n 0, 1) := by decide +kernel
theorem dX11_count_49 : decode cX11_count 49 = .ok (.getfield 23, 3) := by decide +kernel
theorem dX11_count_52 : decode cX11_count 52 = .ok (.getfield 204, 3) := by decide +kernel
theorem dX11_count_55 : decode cX11_count 55 = .ok (.ireturn, 1) := by decide +kernel
theorem dX11_count_56 : decode cX11_count 56 = .ok (.aload_n 0, 1) := by decide +kernel
theorem dX11_count_57 : decode cX11_count 57 = .ok (.getfield 39, 3) := by decide +kernel
theorem dX11_count_60 : decode cX11_count 60 = .ok (.getfield 333, 3) := by decide +kernel
theorem dX11_count_63 : decode cX11_count 63 = .ok (.ireturn, 1) := by decide +kernel
theorem dX11_count_64 : decode cX11_count 64 = .ok (.aload_n 0, 1) := by decide +kernel
theorem dX11_count_65 : decode cX11_count 65 = .ok (.getfield 66, 3) := by decide +kernel
theorem dX11_count_68 : decode cX11_count 68 = .ok (.getfield 334, 3) := by decide +kernel
theorem dX11_count_71 : decode cX11_count 71 = .ok (.ireturn, 1) := by decide +kernel
theorem dX11_count_72 : decode cX11_count 72 = .ok (.aload_n 0, 1) := by decide +kernel
theorem dX11_count_73 : decode cX11_count 73 = .ok (.getfield 16, 3) := by decide +kernel
theorem dX11_count_76 : decode cX11_count 76 = .ok (.getfield 104, 3) := by decide +kernel
theorem dX11_count_79 : decode cX11_count 79 = .ok (.ireturn, 1) := by decide +kernel
theorem dX11_count_80 : decode cX11_count 80 = .ok (.aload_n 0, 1) := by decide +kernel
theorem dX11_count_81 : decode cX11_count 81 = .ok (.getfield 73, 3) := by decide +kernel
theorem dX11_count_84 : decode cX11_count 84 = .ok (.invokevirtual 258, 3) := by decide +kernel
theorem dX11_count_87 : decode cX11_count 87 = .ok (.ireturn, 1) := by decide +kernel
theorem dX11_count_88 : decode cX11_count 88 = .ok (.aload_n 0, 1) := by decide +kernel
theorem dX11_count_89 : decode cX11_count 89 = .ok (.getfield 96, 3) := by decide +kernel
theorem dX11_count_92 : decode cX11_count 92 = .ok (.getfield 302, 3) := by decide +kernel
theorem dX11_count_95 : decode cX11_count 95 = .ok (.ireturn, 1) := by decide +kernel
theorem dX11_count_96 : decode cX11_count 96 = .ok (.aload_n 0, 1) := by decide +kernel
theorem dX11_count_97 : decode cX11_count 97 = .ok (.getfield 73, 3) := by decide +kernel
theorem dX11_count_100 : decode cX11_count 100 = .ok (.getfield 335, 3) := by decide +kernel
theorem dX11_count_103 : decode cX11_count 103 = .ok (.ireturn, 1) := by decide +kernel
theorem dX11_count_104 : decode cX11_count 104 = .ok (.aload_n 0, 1) := by decide +kernel
theorem dX11_count_105 : decode cX11_count 105 = .ok (.getfield 73, 3) := by decide +kernel
theorem dX11_count_108 : decode cX11_count 108 = .ok (.getfield 338, 3) := by decide +kernel
theorem dX11_count_111 : decode cX11_count 111 = .ok (.ireturn, 1) := by decide +kernel
theorem dX11_count_112 : decode cX11_count 112 = .ok (.ldc 168, 2) := by decide +kernel
theorem dX11_count_114 : decode cX11_count 114 = .ok (.ireturn, 1) := by decide +kernel
theorem dX11_within_0 : decode cX11_within 0 = .ok (.iload_n 0, 1) := by decide +kernel
theorem dX11_within_1 : decode cX11_within 1 = .ok (.iload_n 1, 1) := by decide +kernel
theorem dX11_within_2 : decode cX11_within 2 = .ok (.if_icmp .lt 12, 3) := by decide +kernel
theorem dX11_within_5 : decode cX11_within 5 = .ok (.iload_n 0, 1) := by decide +kernel
theorem dX11_within_6 : decode cX11_within 6 = .ok (.iload_n 2, 1) := by decide +kernel
theorem dX11_within_7 : decode cX11_within 7 = .ok (.if_icmp .gt 7, 3) := by decide +kernel
theorem dX11_within_10 : decode cX11_within 10 = .ok (.iconst 1, 1) := by decide +kernel
theorem dX11_within_11 : decode cX11_within 11 = .ok (.goto 4, 3) := by decide +kernel
theorem dX11_within_14 : decode cX11_within 14 = .ok (.iconst 0, 1) := by decide +kernel
theorem dX11_within_15 : decode cX11_within 15 = .ok (.ireturn, 1) := by decide +kernel
theorem dX12_in_0 : decode cX12_in 0 = .ok (.iload_n 0, 1) := by decide +kernel
theorem dX12_in_1 : decode cX12_in 1 = .ok (.iload_n 1, 1) := by decide +kernel
theorem dX12_in_2 : decode cX12_in 2 = .ok (.if_icmp .lt 12, 3) := by decide +kernel
theorem dX12_in_5 : decode cX12_in 5 = .ok (.iload_n 0, 1) := by decide +kernel
theorem dX12_in_6 : decode cX12_in 6 = .ok (.iload_n 2, 1) := by decide +kernel
theorem dX12_in_7 : decode cX12_in 7 = .ok (.if_icmp .gt 7, 3) := by decide +kernel
theorem dX12_in_10 : decode cX12_in 10 = .ok (.iconst 1, 1) := by decide +kernel
theorem dX12_in_11 : decode cX12_in 11 = .ok (.goto 4, 3) := by decide +kernel
theorem dX12_in_14 : decode cX12_in 14 = .ok (.iconst 0, 1) := by decide +kernel
theorem dX12_in_15 : decode cX12_in 15 = .ok (.ireturn, 1) := by decide +kernel
theorem dX12_has_0 : decode cX12_has 0 = .ok (.iload_n 0, 1) := by decide +kernel
theorem dX12_has_1 : decode cX12_has 1 = .ok (.iload_n 1, 1) := by decide +kernel
theorem dX12_has_2 : decode cX12_has 2 = .ok (.ishr, 1) := by decide +kernel
theorem dX12_has_3 : decode cX12_has 3 = .ok (.iconst 1, 1) := by decide +kernel
theorem dX12_has_4 : decode cX12_has 4 = .ok (.iand, 1) := by decide +kernel
theorem dX12_has_5 : decode cX12_has 5 = .ok (.iconst 1, 1) := by decide +kernel
theorem dX12_has_6 : decode cX12_has 6 = .ok (.if_icmp .ne 7, 3) := by decide +kernel
theorem dX12_has_9 : decode cX12_has 9 = .ok (.iconst 1, 1) := by decide +kernel
theorem dX12_has_10 : decode cX12_has 10 = .ok (.goto 4, 3) := by decide +kernel
theorem dX12_has_13 : decode cX12_has 13 = .ok (.iconst 0, 1) := by decide +kernel
theorem dX12_has_14 : decode cX12_has 14 = .ok (.ireturn, 1) := by decide +kernel
theorem dX12_init_0 : decode cX12_init 0 = .ok (.aload_n 0, 1) := by decide +kernel
theorem dX12_init_1 : decode cX12_init 1 = .ok (.invokespecial 3, 3) := by decide +kernel
theorem dX12_init_4 : decode cX12_init 4 = .ok (.aload_n 0, 1) := by decide +kernel
theorem dX12_init_5 : decode cX12_init 5 = .ok (.bipush 120, 2) := by decide +kernel
theorem dX12_init_7 : decode cX12_init 7 = .ok (.newarray .int, 2) := by decide +kernel
theorem dX12_init_9 : decode cX12_init 9 = .ok (.putfield 9, 3) := by decide +kernel
theorem dX12_init_12 : decode cX12_init 12 = .ok (.aload_n 0, 1) := by decide +kernel
theorem dX12_init_13 : decode cX12_init 13 = .ok (.sipush 1820, 3) := by decide +kernel
theorem dX12_init_16 : decode cX12_init 16 = .ok (.newarray .int, 2) := by decide +kernel
theorem dX12_init_18 : decode cX12_init 18 = .ok (.putfield 13, 3) := by decide +kernel
theorem dX12_init_21 : decode cX12_init 21 = .ok (.aload_n 0, 1) := by decide +kernel
theorem dX12_init_22 : decode cX12_init 22 = .ok (.sipush 1820, 3) := by decide +kernel
theorem dX12_init_25 : decode cX12_init 25 = .ok (.newarray .int, 2) := by decide +kernel
theorem dX12_init_27 : decode cX12_init 27 = .ok (.putfield 16, 3) := by decide +kernel
theorem dX12_init_30 : decode cX12_init 30 = .ok (.aload_n 0, 1) := by decide +kernel
theorem dX12_init_31 : decode cX12_init 31 = .ok (.bipush 7, 2) := by decide +kernel
theorem dX12_init_33 : decode cX12_init 33 = .ok (.newarray .int, 2) := by decide +kernel
theorem dX12_init_35 : decode cX12_init 35 = .ok (.putfield 19, 3) := by decide +kernel
theorem dX12_init_38 : decode cX12_init 38 = .ok (.aload_n 0, 1) := by decide +kernel
theorem dX12_init_39 : decode cX12_init 39 = .ok (.bipush 7, 2) := by decide +kernel
theorem dX12_init_41 : decode cX12_init 41 = .ok (.newarray .int, 2) := by decide +kernel
theorem dX12_init_43 : decode cX12_init 43 = .ok (.putfield 22, 3) := by decide +kernel
theorem dX12_init_46 : decode cX12_init 46 = .ok (.aload_n 0, 1) := by decide +kernel
theorem dX12_init_47 : decode cX12_init 47 = .ok (.sipush 630, 3) := by decide +kernel
theorem dX12_init_50 : decode cX12_init 50 = .ok (.newarray .int, 2) := by decide +kernel
theorem dX12_init_52 : decode cX12_init 52 = .ok (.putfield 25, 3) := by decide +kernel
theorem dX12_init_55 : decode cX12_init 55 = .ok (.aload_n 0, 1) := by decide +kernel
theorem dX12_init_56 : decode cX12_init 56 = .ok (.sipush 630, 3) := by decide +kernel
theorem dX12_init_59 : decode cX12_init 59 = .ok (.newarray .int, 2) := by decide +kernel
theorem dX12_init_61 : decode cX12_init 61 = .ok (.putfield 28, 3) := by decide +kernel
theorem dX12_init_64 : decode cX12_init 64 = .ok (.aload_n 0, 1) := by decide +kernel
theorem dX12_init_65 : decode cX12_init 65 = .ok (.sipush 630, 3) := by decide +kernel
theorem dX12_init_68 : decode cX12_init 68 = .ok (.newarray .int, 2) := by decide +kernel
theorem dX12_init_70 : decode cX12_init 70 = .ok (.putfield 31, 3) := by decide +kernel
theorem dX12_init_73 : decode cX12_init 73 = .ok (.aload_n 0, 1) := by decide +kernel
theorem dX12_init_74 : decode cX12_init 74 = .ok (.iconst 4, 1) := by decide +kernel
theorem dX12_init_75 : decode cX12_init 75 = .ok (.newarray .int, 2) := by decide +kernel
theorem dX12_init_77 : decode cX12_init 77 = .ok (.putfield 34, 3) := by decide +kernel
theorem dX12_init_80 : decode cX12_init 80 = .ok (.aload_n 0, 1) := by decide +kernel
theorem dX12_init_81 : decode cX12_init 81 = .ok (.bipush 80, 2) := by decide +kernel
theorem dX12_init_83 : decode cX12_init 83 = .ok (.newarray .int, 2) := by decide +kernel
theorem dX12_init_85 : decode cX12_init 85 = .ok (.putfield 37, 3) := by decide +kernel
theorem dX12_init_88 : decode cX12_init 88 = .ok (.aload_n 0, 1) := by decide +kernel
theorem dX12_init_89 : decode cX12_init 89 = .ok (.sipush 216, 3) := by decide +kernel
theorem dX12_init_92 : decode cX12_init 92 = .ok (.newarray .int, 2) := by decide +kernel
theorem dX12_init_94 : decode cX12_init 94 = .ok (.putfield 40, 3) := by decide +kernel
theorem dX12_init_97 : decode cX12_init 97 = .ok (.aload_n 0, 1) := by decide +kernel
theorem dX12_init_98 : decode cX12_init 98 = .ok (.bipush 9, 2) := by decide +kernel
theorem dX12_init_100 : decode cX12_init 100 = .ok (.newarray .int, 2) := by decide +kernel
theorem dX12_init_102 : decode cX12_init 102 = .ok (.putfield 43, 3) := by decide +kernel
theorem dX12_init_105 : decode cX12_init 105 = .ok (.aload_n 0, 1) := by decide +kernel
theorem dX12_init_106 : decode cX12_init 106 = .ok (.bipush 56, 2) := by decide +kernel
theorem dX12_init_108 : decode cX12_init 108 = .ok (.newarray .int, 2) := by decide +kernel
theorem dX12_init_110 : decode cX12_init 110 = .ok (.putfield 46, 3) := by decide +kernel
theorem dX12_init_113 : decode cX12_init 113 = .ok (.aload_n 0, 1) := by decide +kernel
theorem dX12_init_114 : decode cX12_init 114 = .ok (.bipush 7, 2) := by decide +kernel
theorem dX12_init_116 : decode cX12_init 116 = .ok (.newarray .int, 2) := by decide +kernel
theorem dX12_init_118 : decode cX12_init 118 = .ok (.putfield 49, 3) := by decide +kernel
theorem dX12_init_121 : decode cX12_init 121 = .ok (.aload_n 0, 1) := by decide +kernel
theorem dX12_init_122 : decode cX12_init 122 = .ok (.bipush 24, 2) := by decide +kernel
theorem dX12_init_124 : decode cX12_init 124 = .ok (.newarray .int, 2) := by decide +kernel
theorem dX12_init_126 : decode cX12_init 126 = .ok (.putfield 52, 3) := by decide +kernel
theorem dX12_init_129 : decode cX12_init 129 = .ok (.aload_n 0, 1) := by decide +kernel
theorem dX12_init_130 : decode cX12_init 130 = .ok (.iconst 1, 1) := by decide +kernel
theorem dX12_init_131 : decode cX12_init 131 = .ok (.putfield 55, 3) := by decide +kernel
theorem dX12_init_134 : decode cX12_init 134 = .ok (.aload_n 0, 1) := by decide +kernel
theorem dX12_init_135 : decode cX12_init 135 = .ok (.iconst 1, 1) := by decide +kernel
theorem dX12_init_136 : decode cX12_init 136 = .ok (.putfield 59, 3) := by decide +kernel
theorem dX12_init_139 : decode cX12_init 139 = .ok (.aload_n 0, 1) := by decide +kernel
theorem dX12_init_140 : decode cX12_init 140 = .ok (.iconst 1, 1) := by decide +kernel
theorem dX12_init_141 : decode cX12_init 141 = .ok (.putfield 62, 3) := by decide +kernel
theorem dX12_init_144 : decode cX12_init 144 = .ok (.aload_n 0, 1) := by decide +kernel
theorem dX12_init_145 : decode cX12_init 145 = .ok (.iconst 3, 1) := by decide +kernel
theorem dX12_init_146 : decode cX12_init 146 = .ok (.putfield 65, 3) := by decide +kernel
theorem dX12_init_149 : decode cX12_init 149 = .ok (.aload_n 0, 1) := by decide +kernel
theorem dX12_init_150 : decode cX12_init 150 = .ok (.iconst 3, 1) := by decide +kernel
theorem dX12_init_151 : decode cX12_init 151 = .ok (.putfield 68, 3) := by decide +kernel
theorem dX12_init_154 : decode cX12_init 154 = .ok (.aload_n 0, 1) := by decide +kernel
theorem dX12_init_155 : decode cX12_init 155 = .ok (.bipush 20, 2) := by decide +kernel
theorem dX12_init_157 : decode cX12_init 157 = .ok (.putfield 71, 3) := by decide +kernel
theorem dX12_init_160 : decode cX12_init 160 = .ok (.aload_n 0, 1) := by decide +kernel
theorem dX12_init_161 : decode cX12_init 161 = .ok (.bipush 8, 2) := by decide +kernel
theorem dX12_init_163 : decode cX12_init 163 = .ok (.newarray .int, 2) := by decide +kernel
theorem dX12_init_165 : decode cX12_init 165 = .ok (.putfield 74, 3) := by decide +kernel
theorem dX12_init_168 : decode cX12_init 168 = .ok (.aload_n 0, 1) := by decide +kernel
theorem dX12_init_169 : decode cX12_init 169 = .ok (.bipush 41, 2) := by decide +kernel
theorem dX12_init_171 : decode cX12_init 171 = .ok (.newarray .int, 2) := by decide +kernel
theorem dX12_init_173 : decode cX12_init 173 = .ok (.putfield 77, 3) := by decide +kernel
theorem dX12_init_176 : decode cX12_init 176 = .ok (.aload_n 0, 1) := by decide +kernel
theorem dX12_init_177 : decode cX12_init 177 = .ok (.sipush 1230, 3) := by decide +kernel
theorem dX12_init_180 : decode cX12_init 180 = .ok (.newarray .int, 2) := by decide +kernel
theorem dX12_init_182 : decode cX12_init 182 = .ok (.putfield 80, 3) := by decide +kernel
theorem dX12_init_185 : decode cX12_init 185 = .ok (.aload_n 0, 1) := by decide +kernel
theorem dX12_init_186 : decode cX12_init 186 = .ok (.sipush 1230, 3) := by decide +kernel
theorem dX12_init_189 : decode cX12_init 189 = .ok (.newarray .int, 2) := by decide +kernel
theorem dX12_init_191 : decode cX12_init 191 = .ok (.putfield 83, 3) := by decide +kernel
theorem dX12_init_194 : decode cX12_init 194 = .ok (.aload_n 0, 1) := by decide +kernel
theorem dX12_init_195 : decode cX12_init 195 = .ok (.bipush 41, 2) := by decide +kernel
theorem dX12_init_197 : decode cX12_init 197 = .ok (.newarray .int, 2) := by decide +kernel
theorem dX12_init_199 : decode cX12_init 199 = .ok (.putfield 86, 3) := by decide +kernel
theorem dX12_init_202 : decode cX12_init 202 = .ok (.aload_n 0, 1) := by decide +kernel
theorem dX12_init_203 : decode cX12_init 203 = .ok (.bipush 16, 2) := by decide +kernel
theorem dX12_init_205 : decode cX12_init 205 = .ok (.newarray .int, 2) := by decide +kernel
theorem dX12_init_207 : decode cX12_init 207 = .ok (.putfield 89, 3) := by decide +kernel
theorem dX12_init_210 : decode cX12_init 210 = .ok (.aload_n 0, 1) := by decide +kernel
theorem dX12_init_211 : decode cX12_init 211 = .ok (.bipush 8, 2) := by decide +kernel
theorem dX12_init_213 : decode cX12_init 213 = .ok (.newarray .int, 2) := by decide +kernel
theorem dX12_init_215 : decode cX12_init 215 = .ok (.putfield 92, 3) := by decide +kernel
theorem dX12_init_218 : decode cX12_init 218 = .ok (.aload_n 0, 1) := by decide +kernel
theorem dX12_init_219 : decode cX12_init 219 = .ok (.bipush 8, 2) := by decide +kernel
theorem dX12_init_221 : decode cX12_init 221 = .ok (.newarray .int, 2) := by decide +kernel
theorem dX12_init_223 : decode cX12_init 223 = .ok (.putfield 95, 3) := by decide +kernel
theorem dX12_init_226 : decode cX12_init 226 = .ok (.aload_n 0, 1) := by decide +kernel
theorem dX12_init_227 : decode cX12_init 227 = .ok (.bipush 8, 2) := by decide +kernel
theorem dX12_init_229 : decode cX12_init 229 = .ok (.newarray .int, 2) := by decide +kernel
theorem dX12_init_231 : decode cX12_init 231 = .ok (.putfield 98, 3) := by decide +kernel
theorem dX12_init_234 : decode cX12_init 234 = .ok (.iconst 0, 1) := by decide +kernel
theorem dX12_init_235 : decode cX12_init 235 = .ok (.istore_n 1, 1) := by decide +kernel
theorem dX12_init_236 : decode cX12_init 236 = .ok (.iload_n 1, 1) := by decide +kernel
theorem dX12_init_237 : decode cX12_init 237 = .ok (.bipush 8, 2) := by decide +kernel
theorem dX12_init_239 : decode cX12_init 239 = .ok (.if_icmp .ge 16, 3) := by decide +kernel
theorem dX12_init_242 : decode cX12_init 242 = .ok (.aload_n 0, 1) := by decide +kernel
theorem dX12_init_243 : decode cX12_init 243 = .ok (.getfield 74, 3) := by decide +kernel
theorem dX12_init_246 : decode cX12_init 246 = .ok (.iload_n 1, 1) := by decide +kernel
theorem dX12_init_247 : decode cX12_init 247 = .ok (.iconst (-1), 1) := by decide +kernel
theorem dX12_init_248 : decode cX12_init 248 = .ok (.iastore, 1) := by decide +kernel
theorem dX12_init_249 : decode cX12_init 249 = .ok (.iinc 1 1, 3) := by decide +kernel
theorem dX12_init_252 : decode cX12_init 252 = .ok (.goto (-16), 3) := by decide +kernel
theorem dX12_init_255 : decode cX12_init 255 = .ok (.return_, 1) := by decide +kernel
theorem dX12_thrown_0 : decode cX12_thrown 0 = .ok (.aload_n 0, 1) := by decide +kernel
theorem dX12_thrown_1 : decode cX12_thrown 1 = .ok (.getfield 101, 3) := by decide +kernel
theorem dX12_thrown_4 : decode cX12_thrown 4 = .ok (.ireturn, 1) := by decide +kernel
theorem dX12_byteOf_0 : decode cX12_byteOf 0 = .ok (.iload 5, 2) := by decide +kernel
theorem dX12_byteOf_2 : decode cX12_byteOf 2 = .ok (.iconst 4, 1) := by decide +kernel
theorem dX12_byteOf_3 : decode cX12_byteOf 3 = .ok (.if_icmp .ge 7, 3) := by decide +kernel
theorem dX12_byteOf_6 : decode cX12_byteOf 6 = .ok (.iload_n 0, 1) := by decide +kernel
theorem dX12_byteOf_7 : decode cX12_byteOf 7 = .ok (.goto 38, 3) := by decide +kernel
theorem dX12_byteOf_10 : decode cX12_byteOf 10 = .ok (.iload 5, 2) := by decide +kernel
theorem dX12_byteOf_12 : decode cX12_byteOf 12 = .ok (.bipush 8, 2) := by decide +kernel
theorem dX12_byteOf_14 : decode cX12_byteOf 14 = .ok (.if_icmp .ge 7, 3) := by decide +kernel
theorem dX12_byteOf_17 : decode cX12_byteOf 17 = .ok (.iload_n 1, 1) := by decide +kernel
theorem dX12_byteOf_18 : decode cX12_byteOf 18 = .ok (.goto 27, 3) := by decide +kernel
theorem dX12_byteOf_21 : decode cX12_byteOf 21 = .ok (.iload 5, 2) := by decide +kernel
theorem dX12_byteOf_23 : decode cX12_byteOf 23 = .ok (.bipush 12, 2) := by decide +kernel
theorem dX12_byteOf_25 : decode cX12_byteOf 25 = .ok (.if_icmp .ge 7, 3) := by decide +kernel
theorem dX12_byteOf_28 : decode cX12_byteOf 28 = .ok (.iload_n 2, 1) := by decide +kernel
theorem dX12_byteOf_29 : decode cX12_byteOf 29 = .ok (.goto 16, 3) := by decide +kernel
theorem dX12_byteOf_32 : decode cX12_byteOf 32 = .ok (.iload 5, 2) := by decide +kernel
theorem dX12_byteOf_34 : decode cX12_byteOf 34 = .ok (.bipush 16, 2) := by decide +kernel
theorem dX12_byteOf_36 : decode cX12_byteOf 36 = .ok (.if_icmp .ge 7, 3) := by decide +kernel
theorem dX12_byteOf_39 : decode cX12_byteOf 39 = .ok (.iload_n 3, 1) := by decide +kernel
theorem dX12_byteOf_40 : decode cX12_byteOf 40 = .ok (.goto 5, 3) := by decide +kernel
theorem dX12_byteOf_43 : decode cX12_byteOf 43 = .ok (.iload 4, 2) := by decide +kernel
theorem dX12_byteOf_45 : decode cX12_byteOf 45 = .ok (.istore 6, 2) := by decide +kernel
theorem dX12_byteOf_47 : decode cX12_byteOf 47 = .ok (.iload 6, 2) := by decide +kernel
theorem dX12_byteOf_49 : decode cX12_byteOf 49 = .ok (.bipush 24, 2) := by decide +kernel
theorem dX12_byteOf_51 : decode cX12_byteOf 51 = .ok (.bipush 8, 2) := by decide +kernel
theorem dX12_byteOf_53 : decode cX12_byteOf 53 = .ok (.iload 5, 2) := by decide +kernel
theorem dX12_byteOf_55 : decode cX12_byteOf 55 = .ok (.iconst 4, 1) := by decide +kernel
theorem dX12_byteOf_56 : decode cX12_byteOf 56 = .ok (.irem, 1) := by decide +kernel
theorem dX12_byteOf_57 : decode cX12_byteOf 57 = .ok (.imul, 1) := by decide +kernel
theorem dX12_byteOf_58 : decode cX12_byteOf 58 = .ok (.isub, 1) := by decide +kernel
theorem dX12_byteOf_59 : decode cX12_byteOf 59 = .ok (.ishr, 1) := by decide +kernel
theorem dX12_byteOf_60 : decode cX12_byteOf 60 = .ok (.sipush 255, 3) := by decide +kernel
theorem dX12_byteOf_63 : decode cX12_byteOf 63 = .ok (.iand, 1) := by decide +kernel
theorem dX12_byteOf_64 : decode cX12_byteOf 64 = .ok (.ireturn, 1) := by decide +kernel
theorem dX12_feed_0 : decode cX12_feed 0 = .ok (.iconst 0, 1) := by decide +kernel
theorem dX12_feed_1 : decode cX12_feed 1 = .ok (.istore 6, 2) := by decide +kernel
theorem dX12_feed_3 : decode cX12_feed 3 = .ok (.iconst 0, 1) := by decide +kernel
theorem dX12_feed_4 : decode cX12_feed 4 = .ok (.istore 7, 2) := by decide +kernel
theorem dX12_feed_6 : decode cX12_feed 6 = .ok (.iload 7, 2) := by decide +kernel
theorem dX12_feed_8 : decode cX12_feed 8 = .ok (.bipush 20, 2) := by decide +kernel
theorem dX12_feed_10 : decode cX12_feed 10 = .ok (.if_icmp .ge 34, 3) := by decide +kernel
theorem dX12_feed_13 : decode cX12_feed 13 = .ok (.iload 6, 2) := by decide +kernel
theorem dX12_feed_15 : decode cX12_feed 15 = .ok (.iload_n 1, 1) := by decide +kernel
theorem dX12_feed_16 : decode cX12_feed 16 = .ok (.iload_n 2, 1) := by decide +kernel
theorem dX12_feed_17 : decode cX12_feed 17 = .ok (.iload_n 3, 1) := by decide +kernel
theorem dX12_feed_18 : decode cX12_feed 18 = .ok (.iload 4, 2) := by decide +kernel
theorem dX12_feed_20 : decode cX12_feed 20 = .ok (.iload 5, 2) := by decide +kernel
theorem dX12_feed_22 : decode cX12_feed 22 = .ok (.iload 7, 2) := by decide +kernel
theorem dX12_feed_24 : decode cX12_feed 24 = .ok (.invokestatic 104, 3) := by decide +kernel
theorem dX12_feed_27 : decode cX12_feed 27 = .ok (.ifCond .eq 7, 3) := by decide +kernel
theorem dX12_feed_30 : decode cX12_feed 30 = .ok (.iconst 1, 1) := by decide +kernel
theorem dX12_feed_31 : decode cX12_feed 31 = .ok (.goto 4, 3) := by decide +kernel
theorem dX12_feed_34 : decode cX12_feed 34 = .ok (.iconst 0, 1) := by decide +kernel
theorem dX12_feed_35 : decode cX12_feed 35 = .ok (.iadd, 1) := by decide +kernel
theorem dX12_feed_36 : decode cX12_feed 36 = .ok (.istore 6, 2) := by decide +kernel
theorem dX12_feed_38 : decode cX12_feed 38 = .ok (.iinc 7 1, 3) := by decide +kernel
theorem dX12_feed_41 : decode cX12_feed 41 = .ok (.goto (-35), 3) := by decide +kernel
theorem dX12_feed_44 : decode cX12_feed 44 = .ok (.aload_n 0, 1) := by decide +kernel
theorem dX12_feed_45 : decode cX12_feed 45 = .ok (.getfield 108, 3) := by decide +kernel
theorem dX12_feed_48 : decode cX12_feed 48 = .ok (.iload 6, 2) := by decide +kernel
theorem dX12_feed_50 : decode cX12_feed 50 = .ok (.iadd, 1) := by decide +kernel
theorem dX12_feed_51 : decode cX12_feed 51 = .ok (.bipush 120, 2) := by decide +kernel
theorem dX12_feed_53 : decode cX12_feed 53 = .ok (.if_icmp .le 5, 3) := by decide +kernel
theorem dX12_feed_56 : decode cX12_feed 56 = .ok (.iconst (-1), 1) := by decide +kernel
theorem dX12_feed_57 : decode cX12_feed 57 = .ok (.ireturn, 1) := by decide +kernel
theorem dX12_feed_58 : decode cX12_feed 58 = .ok (.iconst 0, 1) := by decide +kernel
theorem dX12_feed_59 : decode cX12_feed 59 = .ok (.istore 7, 2) := by decide +kernel
theorem dX12_feed_61 : decode cX12_feed 61 = .ok (.iload 7, 2) := by decide +kernel
theorem dX12_feed_63 : decode cX12_feed 63 = .ok (.bipush 20, 2) := by decide +kernel
theorem dX12_feed_65 : decode cX12_feed 65 = .ok (.if_icmp .ge 49, 3) := by decide +kernel
theorem dX12_feed_68 : decode cX12_feed 68 = .ok (.iload_n 1, 1) := by decide +kernel
theorem dX12_feed_69 : decode cX12_feed 69 = .ok (.iload_n 2, 1) := by decide +kernel
theorem dX12_feed_70 : decode cX12_feed 70 = .ok (.iload_n 3, 1) := by decide +kernel
theorem dX12_feed_71 : decode cX12_feed 71 = .ok (.iload 4, 2) := by decide +kernel
theorem dX12_feed_73 : decode cX12_feed 73 = .ok (.iload 5, 2) := by decide +kernel
theorem dX12_feed_75 : decode cX12_feed 75 = .ok (.iload 7, 2) := by decide +kernel
theorem dX12_feed_77 : decode cX12_feed 77 = .ok (.invokestatic 104, 3) := by decide +kernel
theorem dX12_feed_80 : decode cX12_feed 80 = .ok (.istore 8, 2) := by decide +kernel
theorem dX12_feed_82 : decode cX12_feed 82 = .ok (.iload 8, 2) := by decide +kernel
theorem dX12_feed_84 : decode cX12_feed 84 = .ok (.ifCond .eq 24, 3) := by decide +kernel
theorem dX12_feed_87 : decode cX12_feed 87 = .ok (.aload_n 0, 1) := by decide +kernel
theorem dX12_feed_88 : decode cX12_feed 88 = .ok (.getfield 9, 3) := by decide +kernel
theorem dX12_feed_91 : decode cX12_feed 91 = .ok (.aload_n 0, 1) := by decide +kernel
theorem dX12_feed_92 : decode cX12_feed 92 = .ok (.getfield 108, 3) := by decide +kernel
theorem dX12_feed_95 : decode cX12_feed 95 = .ok (.iload 8, 2) := by decide +kernel
theorem dX12_feed_97 : decode cX12_feed 97 = .ok (.iastore, 1) := by decide +kernel
theorem dX12_feed_98 : decode cX12_feed 98 = .ok (.aload_n 0, 1) := by decide +kernel
theorem dX12_feed_99 : decode cX12_feed 99 = .ok (.dup, 1) := by decide +kernel
theorem dX12_feed_100 : decode cX12_feed 100 = .ok (.getfield 108, 3) := by decide +kernel
theorem dX12_feed_103 : decode cX12_feed 103 = .ok (.iconst 1, 1) := by decide +kernel
theorem dX12_feed_104 : decode cX12_feed 104 = .ok (.iadd, 1) := by decide +kernel
theorem dX12_feed_105 : decode cX12_feed 105 = .ok (.putfield 108, 3) := by decide +kernel
theorem dX12_feed_108 : decode cX12_feed 108 = .ok (.iinc 7 1, 3) := by decide +kernel
theorem dX12_feed_111 : decode cX12_feed 111 = .ok (.goto (-50), 3) := by decide +kernel
theorem dX12_feed_114 : decode cX12_feed 114 = .ok (.aload_n 0, 1) := by decide +kernel
theorem dX12_feed_115 : decode cX12_feed 115 = .ok (.getfield 108, 3) := by decide +kernel
theorem dX12_feed_118 : decode cX12_feed 118 = .ok (.ireturn, 1) := by decide +kernel
theorem dX12_end_0 : decode cX12_end 0 = .ok (.iload_n 1, 1) := by decide +kernel
theorem dX12_end_1 : decode cX12_end 1 = .ok (.ifCond .lt 11, 3) := by decide +kernel
theorem dX12_end_4 : decode cX12_end 4 = .ok (.iload_n 1, 1) := by decide +kernel
theorem dX12_end_5 : decode cX12_end 5 = .ok (.aload_n 0, 1) := by decide +kernel
theorem dX12_end_6 : decode cX12_end 6 = .ok (.getfield 108, 3) := by decide +kernel
theorem dX12_end_9 : decode cX12_end 9 = .ok (.if_icmp .le 5, 3) := by decide +kernel
theorem dX12_end_12 : decode cX12_end 12 = .ok (.iconst 0, 1) := by decide +kernel
theorem dX12_end_13 : decode cX12_end 13 = .ok (.ireturn, 1) := by decide +kernel
theorem dX12_end_14 : decode cX12_end 14 = .ok (.aload_n 0, 1) := by decide +kernel
theorem dX12_end_15 : decode cX12_end 15 = .ok (.iload_n 1, 1) := by decide +kernel
theorem dX12_end_16 : decode cX12_end 16 = .ok (.putfield 108, 3) := by decide +kernel
theorem dX12_end_19 : decode cX12_end 19 = .ok (.iconst 1, 1) := by decide +kernel
theorem dX12_end_20 : decode cX12_end 20 = .ok (.ireturn, 1) := by decide +kernel
theorem dX12_here_0 : decode cX12_here 0 = .ok (.aload_n 0, 1) := by decide +kernel
theorem dX12_here_1 : decode cX12_here 1 = .ok (.getfield 111, 3) := by decide +kernel
theorem dX12_here_4 : decode cX12_here 4 = .ok (.aload_n 0, 1) := by decide +kernel
theorem dX12_here_5 : decode cX12_here 5 = .ok (.getfield 108, 3) := by decide +kernel
theorem dX12_here_8 : decode cX12_here 8 = .ok (.if_icmp .ge 15, 3) := by decide +kernel
theorem dX12_here_11 : decode cX12_here 11 = .ok (.aload_n 0, 1) := by decide +kernel
theorem dX12_here_12 : decode cX12_here 12 = .ok (.getfield 9, 3) := by decide +kernel
theorem dX12_here_15 : decode cX12_here 15 = .ok (.aload_n 0, 1) := by decide +kernel
theorem dX12_here_16 : decode cX12_here 16 = .ok (.getfield 111, 3) := by decide +kernel
theorem dX12_here_19 : decode cX12_here 19 = .ok (.iaload, 1) := by decide +kernel
theorem dX12_here_20 : decode cX12_here 20 = .ok (.goto 4, 3) := by decide +kernel
theorem dX12_here_23 : decode cX12_here 23 = .ok (.iconst (-1), 1) := by decide +kernel
theorem dX12_here_24 : decode cX12_here 24 = .ok (.ireturn, 1) := by decide +kernel
theorem dX12_look_0 : decode cX12_look 0 = .ok (.aload_n 0, 1) := by decide +kernel
theorem dX12_look_1 : decode cX12_look 1 = .ok (.invokevirtual 114, 3) := by decide +kernel
theorem dX12_look_4 : decode cX12_look 4 = .ok (.bipush 32, 2) := by decide +kernel
theorem dX12_look_6 : decode cX12_look 6 = .ok (.if_icmp .ne 16, 3) := by decide +kernel
theorem dX12_look_9 : decode cX12_look 9 = .ok (.aload_n 0, 1) := by decide +kernel
theorem dX12_look_10 : decode cX12_look 10 = .ok (.dup, 1) := by decide +kernel
theorem dX12_look_11 : decode cX12_look 11 = .ok (.getfield 111, 3) := by decide +kernel
theorem dX12_look_14 : decode cX12_look 14 = .ok (.iconst 1, 1) := by decide +kernel
theorem dX12_look_15 : decode cX12_look 15 = .ok (.iadd, 1) := by decide +kernel
theorem dX12_look_16 : decode cX12_look 16 = .ok (.putfield 111, 3) := by decide +kernel
theorem dX12_look_19 : decode cX12_look 19 = .ok (.goto (-19), 3) := by decide +kernel
theorem dX12_look_22 : decode cX12_look 22 = .ok (.aload_n 0, 1) := by decide +kernel
theorem dX12_look_23 : decode cX12_look 23 = .ok (.invokevirtual 114, 3) := by decide +kernel
theorem dX12_look_26 : decode cX12_look 26 = .ok (.ireturn, 1) := by decide +kernel
theorem dX12_bad_0 : decode cX12_bad 0 = .ok (.aload_n 0, 1) := by decide +kernel
theorem dX12_bad_1 : decode cX12_bad 1 = .ok (.aload_n 0, 1) := by decide +kernel
theorem dX12_bad_2 : decode cX12_bad 2 = .ok (.getfield 118, 3) := by decide +kernel
theorem dX12_bad_5 : decode cX12_bad 5 = .ok (.iconst (-1), 1) := by decide +kernel
theorem dX12_bad_6 : decode cX12_bad 6 = .ok (.if_icmp .ne 10, 3) := by decide +kernel
theorem dX12_bad_9 : decode cX12_bad 9 = .ok (.aload_n 0, 1) := by decide +kernel
theorem dX12_bad_10 : decode cX12_bad 10 = .ok (.getfield 111, 3) := by decide +kernel
theorem dX12_bad_13 : decode cX12_bad 13 = .ok (.goto 7, 3) := by decide +kernel
theorem dX12_bad_16 : decode cX12_bad 16 = .ok (.aload_n 0, 1) := by decide +kernel
theorem dX12_bad_17 : decode cX12_bad 17 = .ok (.getfield 118, 3) := by decide +kernel
theorem dX12_bad_20 : decode cX12_bad 20 = .ok (.putfield 118, 3) := by decide +kernel
theorem dX12_bad_23 : decode cX12_bad 23 = .ok (.return_, 1) := by decide +kernel
theorem dX12_isDigit_0 : decode cX12_isDigit 0 = .ok (.iload_n 0, 1) := by decide +kernel
theorem dX12_isDigit_1 : decode cX12_isDigit 1 = .ok (.bipush 48, 2) := by decide +kernel
theorem dX12_isDigit_3 : decode cX12_isDigit 3 = .ok (.if_icmp .lt 13, 3) := by decide +kernel
theorem dX12_isDigit_6 : decode cX12_isDigit 6 = .ok (.iload_n 0, 1) := by decide +kernel
theorem dX12_isDigit_7 : decode cX12_isDigit 7 = .ok (.bipush 57, 2) := by decide +kernel
theorem dX12_isDigit_9 : decode cX12_isDigit 9 = .ok (.if_icmp .gt 7, 3) := by decide +kernel
theorem dX12_isDigit_12 : decode cX12_isDigit 12 = .ok (.iconst 1, 1) := by decide +kernel
theorem dX12_isDigit_13 : decode cX12_isDigit 13 = .ok (.goto 4, 3) := by decide +kernel
theorem dX12_isDigit_16 : decode cX12_isDigit 16 = .ok (.iconst 0, 1) := by decide +kernel
theorem dX12_isDigit_17 : decode cX12_isDigit 17 = .ok (.ireturn, 1) := by decide +kernel
theorem dX12_put_0 : decode cX12_put 0 = .ok (.aload_n 0, 1) := by decide +kernel
theorem dX12_put_1 : decode cX12_put 1 = .ok (.getfield 13, 3) := by decide +kernel
theorem dX12_put_4 : decode cX12_put 4 = .ok (.sipush 260, 3) := by decide +kernel
theorem dX12_put_7 : decode cX12_put 7 = .ok (.aload_n 0, 1) := by decide +kernel
theorem dX12_put_8 : decode cX12_put 8 = .ok (.getfield 121, 3) := by decide +kernel
theorem dX12_put_11 : decode cX12_put 11 = .ok (.imul, 1) := by decide +kernel
theorem dX12_put_12 : decode cX12_put 12 = .ok (.aload_n 0, 1) := by decide +kernel
theorem dX12_put_13 : decode cX12_put 13 = .ok (.getfield 19, 3) := by decide +kernel
theorem dX12_put_16 : decode cX12_put 16 = .ok (.aload_n 0, 1) := by decide +kernel
theorem dX12_put_17 : decode cX12_put 17 = .ok (.getfield 121, 3) := by decide +kernel
theorem dX12_put_20 : decode cX12_put 20 = .ok (.iaload, 1) := by decide +kernel
theorem dX12_put_21 : decode cX12_put 21 = .ok (.iadd, 1) := by decide +kernel
theorem dX12_put_22 : decode cX12_put 22 = .ok (.iload_n 1, 1) := by decide +kernel
theorem dX12_put_23 : decode cX12_put 23 = .ok (.iastore, 1) := by decide +kernel
theorem dX12_put_24 : decode cX12_put 24 = .ok (.aload_n 0, 1) := by decide +kernel
theorem dX12_put_25 : decode cX12_put 25 = .ok (.getfield 16, 3) := by decide +kernel
theorem dX12_put_28 : decode cX12_put 28 = .ok (.sipush 260, 3) := by decide +kernel
theorem dX12_put_31 : decode cX12_put 31 = .ok (.aload_n 0, 1) := by decide +kernel
theorem dX12_put_32 : decode cX12_put 32 = .ok (.getfield 121, 3) := by decide +kernel
theorem dX12_put_35 : decode cX12_put 35 = .ok (.imul, 1) := by decide +kernel
theorem dX12_put_36 : decode cX12_put 36 = .ok (.aload_n 0, 1) := by decide +kernel
theorem dX12_put_37 : decode cX12_put 37 = .ok (.getfield 19, 3) := by decide +kernel
theorem dX12_put_40 : decode cX12_put 40 = .ok (.aload_n 0, 1) := by decide +kernel
theorem dX12_put_41 : decode cX12_put 41 = .ok (.getfield 121, 3) := by decide +kernel
theorem dX12_put_44 : decode cX12_put 44 = .ok (.iaload, 1) := by decide +kernel
theorem dX12_put_45 : decode cX12_put 45 = .ok (.iadd, 1) := by decide +kernel
theorem dX12_put_46 : decode cX12_put 46 = .ok (.iload_n 2, 1) := by decide +kernel
theorem dX12_put_47 : decode cX12_put 47 = .ok (.iastore, 1) := by decide +kernel
theorem dX12_put_48 : decode cX12_put 48 = .ok (.aload_n 0, 1) := by decide +kernel
theorem dX12_put_49 : decode cX12_put 49 = .ok (.getfield 19, 3) := by decide +kernel
theorem dX12_put_52 : decode cX12_put 52 = .ok (.aload_n 0, 1) := by decide +kernel
theorem dX12_put_53 : decode cX12_put 53 = .ok (.getfield 121, 3) := by decide +kernel
theorem dX12_put_56 : decode cX12_put 56 = .ok (.dup2, 1) := by decide +kernel
theorem dX12_put_57 : decode cX12_put 57 = .ok (.iaload, 1) := by decide +kernel
theorem dX12_put_58 : decode cX12_put 58 = .ok (.iconst 1, 1) := by decide +kernel
theorem dX12_put_59 : decode cX12_put 59 = .ok (.iadd, 1) := by decide +kernel
theorem dX12_put_60 : decode cX12_put 60 = .ok (.iastore, 1) := by decide +kernel
theorem dX12_put_61 : decode cX12_put 61 = .ok (.return_, 1) := by decide +kernel
theorem dX12_letterOf_0 : decode cX12_letterOf 0 = .ok (.iload_n 0, 1) := by decide +kernel
theorem dX12_letterOf_1 : decode cX12_letterOf 1 = .ok (.bipush 107, 2) := by decide +kernel
theorem dX12_letterOf_3 : decode cX12_letterOf 3 = .ok (.if_icmp .ne 7, 3) := by decide +kernel
theorem dX12_letterOf_6 : decode cX12_letterOf 6 = .ok (.iconst 0, 1) := by decide +kernel
theorem dX12_letterOf_7 : decode cX12_letterOf 7 = .ok (.goto 34, 3) := by decide +kernel
theorem dX12_letterOf_10 : decode cX12_letterOf 10 = .ok (.iload_n 0, 1) := by decide +kernel
theorem dX12_letterOf_11 : decode cX12_letterOf 11 = .ok (.bipush 110, 2) := by decide +kernel
theorem dX12_letterOf_13 : decode cX12_letterOf 13 = .ok (.if_icmp .ne 7, 3) := by decide +kernel
theorem dX12_letterOf_16 : decode cX12_letterOf 16 = .ok (.iconst 1, 1) := by decide +kernel
theorem dX12_letterOf_17 : decode cX12_letterOf 17 = .ok (.goto 24, 3) := by decide +kernel
theorem dX12_letterOf_20 : decode cX12_letterOf 20 = .ok (.iload_n 0, 1) := by decide +kernel
theorem dX12_letterOf_21 : decode cX12_letterOf 21 = .ok (.bipush 97, 2) := by decide +kernel
theorem dX12_letterOf_23 : decode cX12_letterOf 23 = .ok (.if_icmp .ne 7, 3) := by decide +kernel
theorem dX12_letterOf_26 : decode cX12_letterOf 26 = .ok (.iconst 2, 1) := by decide +kernel
theorem dX12_letterOf_27 : decode cX12_letterOf 27 = .ok (.goto 14, 3) := by decide +kernel
theorem dX12_letterOf_30 : decode cX12_letterOf 30 = .ok (.iload_n 0, 1) := by decide +kernel
theorem dX12_letterOf_31 : decode cX12_letterOf 31 = .ok (.bipush 98, 2) := by decide +kernel
theorem dX12_letterOf_33 : decode cX12_letterOf 33 = .ok (.if_icmp .ne 7, 3) := by decide +kernel
theorem dX12_letterOf_36 : decode cX12_letterOf 36 = .ok (.iconst 3, 1) := by decide +kernel
theorem dX12_letterOf_37 : decode cX12_letterOf 37 = .ok (.goto 4, 3) := by decide +kernel
theorem dX12_letterOf_40 : decode cX12_letterOf 40 = .ok (.iconst (-1), 1) := by decide +kernel
theorem dX12_letterOf_41 : decode cX12_letterOf 41 = .ok (.ireturn, 1) := by decide +kernel
theorem dX12_opens_0 : decode cX12_opens 0 = .ok (.aload_n 0, 1) := by decide +kernel
theorem dX12_opens_1 : decode cX12_opens 1 = .ok (.getfield 124, 3) := by decide +kernel
theorem dX12_opens_4 : decode cX12_opens 4 = .ok (.bipush 6, 2) := by decide +kernel
theorem dX12_opens_6 : decode cX12_opens 6 = .ok (.if_icmp .ne 7, 3) := by decide +kernel
theorem dX12_opens_9 : decode cX12_opens 9 = .ok (.aload_n 0, 1) := by decide +kernel
theorem dX12_opens_10 : decode cX12_opens 10 = .ok (.invokevirtual 127, 3) := by decide +kernel
theorem dX12_opens_13 : decode cX12_opens 13 = .ok (.aload_n 0, 1) := by decide +kernel
theorem dX12_opens_14 : decode cX12_opens 14 = .ok (.dup, 1) := by decide +kernel
theorem dX12_opens_15 : decode cX12_opens 15 = .ok (.getfield 124, 3) := by decide +kernel
theorem dX12_opens_18 : decode cX12_opens 18 = .ok (.iconst 1, 1) := by decide +kernel
theorem dX12_opens_19 : decode cX12_opens 19 = .ok (.iadd, 1) := by decide +kernel
theorem dX12_opens_20 : decode cX12_opens 20 = .ok (.putfield 124, 3) := by decide +kernel
theorem dX12_opens_23 : decode cX12_opens 23 = .ok (.aload_n 0, 1) := by decide +kernel
theorem dX12_opens_24 : decode cX12_opens 24 = .ok (.dup, 1) := by decide +kernel
theorem dX12_opens_25 : decode cX12_opens 25 = .ok (.getfield 111, 3) := by decide +kernel
theorem dX12_opens_28 : decode cX12_opens 28 = .ok (.iconst 1, 1) := by decide +kernel
theorem dX12_opens_29 : decode cX12_opens 29 = .ok (.iadd, 1) := by decide +kernel
theorem dX12_opens_30 : decode cX12_opens 30 = .ok (.putfield 111, 3) := by decide +kernel
theorem dX12_opens_33 : decode cX12_opens 33 = .ok (.return_, 1) := by decide +kernel
theorem dX12_closes_0 : decode cX12_closes 0 = .ok (.aload_n 0, 1) := by decide +kernel
theorem dX12_closes_1 : decode cX12_closes 1 = .ok (.getfield 118, 3) := by decide +kernel
theorem dX12_closes_4 : decode cX12_closes 4 = .ok (.iconst (-1), 1) := by decide +kernel
theorem dX12_closes_5 : decode cX12_closes 5 = .ok (.if_icmp .ne 15, 3) := by decide +kernel
theorem dX12_closes_8 : decode cX12_closes 8 = .ok (.aload_n 0, 1) := by decide +kernel
theorem dX12_closes_9 : decode cX12_closes 9 = .ok (.invokevirtual 130, 3) := by decide +kernel
theorem dX12_closes_12 : decode cX12_closes 12 = .ok (.iload_n 1, 1) := by decide +kernel
theorem dX12_closes_13 : decode cX12_closes 13 = .ok (.if_icmp .eq 7, 3) := by decide +kernel
theorem dX12_closes_16 : decode cX12_closes 16 = .ok (.aload_n 0, 1) := by decide +kernel
theorem dX12_closes_17 : decode cX12_closes 17 = .ok (.invokevirtual 127, 3) := by decide +kernel
theorem dX12_closes_20 : decode cX12_closes 20 = .ok (.aload_n 0, 1) := by decide +kernel
theorem dX12_closes_21 : decode cX12_closes 21 = .ok (.dup, 1) := by decide +kernel
theorem dX12_closes_22 : decode cX12_closes 22 = .ok (.getfield 111, 3) := by decide +kernel
theorem dX12_closes_25 : decode cX12_closes 25 = .ok (.iconst 1, 1) := by decide +kernel
theorem dX12_closes_26 : decode cX12_closes 26 = .ok (.iadd, 1) := by decide +kernel
theorem dX12_closes_27 : decode cX12_closes 27 = .ok (.putfield 111, 3) := by decide +kernel
theorem dX12_closes_30 : decode cX12_closes 30 = .ok (.aload_n 0, 1) := by decide +kernel
theorem dX12_closes_31 : decode cX12_closes 31 = .ok (.dup, 1) := by decide +kernel
theorem dX12_closes_32 : decode cX12_closes 32 = .ok (.getfield 124, 3) := by decide +kernel
theorem dX12_closes_35 : decode cX12_closes 35 = .ok (.iconst 1, 1) := by decide +kernel
theorem dX12_closes_36 : decode cX12_closes 36 = .ok (.isub, 1) := by decide +kernel
theorem dX12_closes_37 : decode cX12_closes 37 = .ok (.putfield 124, 3) := by decide +kernel
theorem dX12_closes_40 : decode cX12_closes 40 = .ok (.return_, 1) := by decide +kernel
theorem dX12_plainNumber_0 : decode cX12_plainNumber 0 = .ok (.iconst 0, 1) := by decide +kernel
theorem dX12_plainNumber_1 : decode cX12_plainNumber 1 = .ok (.istore_n 1, 1) := by decide +kernel
theorem dX12_plainNumber_2 : decode cX12_plainNumber 2 = .ok (.iconst 0, 1) := by decide +kernel
theorem dX12_plainNumber_3 : decode cX12_plainNumber 3 = .ok (.istore_n 2, 1) := by decide +kernel
theorem dX12_plainNumber_4 : decode cX12_plainNumber 4 = .ok (.iload_n 2, 1) := by decide +kernel
theorem dX12_plainNumber_5 : decode cX12_plainNumber 5 = .ok (.iconst 4, 1) := by decide +kernel
theorem dX12_plainNumber_6 : decode cX12_plainNumber 6 = .ok (.if_icmp .ge 42, 3) := by decide +kernel
theorem dX12_plainNumber_9 : decode cX12_plainNumber 9 = .ok (.aload_n 0, 1) := by decide +kernel
theorem dX12_plainNumber_10 : decode cX12_plainNumber 10 = .ok (.invokevirtual 114, 3) := by decide +kernel
theorem dX12_plainNumber_13 : decode cX12_plainNumber 13 = .ok (.invokestatic 133, 3) := by decide +kernel
theorem dX12_plainNumber_16 : decode cX12_plainNumber 16 = .ok (.ifCond .eq 32, 3) := by decide +kernel
theorem dX12_plainNumber_19 : decode cX12_plainNumber 19 = .ok (.bipush 10, 2) := by decide +kernel
theorem dX12_plainNumber_21 : decode cX12_plainNumber 21 = .ok (.iload_n 1, 1) := by decide +kernel
theorem dX12_plainNumber_22 : decode cX12_plainNumber 22 = .ok (.imul, 1) := by decide +kernel
theorem dX12_plainNumber_23 : decode cX12_plainNumber 23 = .ok (.aload_n 0, 1) := by decide +kernel
theorem dX12_plainNumber_24 : decode cX12_plainNumber 24 = .ok (.invokevirtual 114, 3) := by decide +kernel
theorem dX12_plainNumber_27 : decode cX12_plainNumber 27 = .ok (.iadd, 1) := by decide +kernel
theorem dX12_plainNumber_28 : decode cX12_plainNumber 28 = .ok (.bipush 48, 2) := by decide +kernel
theorem dX12_plainNumber_30 : decode cX12_plainNumber 30 = .ok (.isub, 1) := by decide +kernel
theorem dX12_plainNumber_31 : decode cX12_plainNumber 31 = .ok (.istore_n 1, 1) := by decide +kernel
theorem dX12_plainNumber_32 : decode cX12_plainNumber 32 = .ok (.aload_n 0, 1) := by decide +kernel
theorem dX12_plainNumber_33 : decode cX12_plainNumber 33 = .ok (.dup, 1) := by decide +kernel
theorem dX12_plainNumber_34 : decode cX12_plainNumber 34 = .ok (.getfield 111, 3) := by decide +kernel
theorem dX12_plainNumber_37 : decode cX12_plainNumber 37 = .ok (.iconst 1, 1) := by decide +kernel
theorem dX12_plainNumber_38 : decode cX12_plainNumber 38 = .ok (.iadd, 1) := by decide +kernel
theorem dX12_plainNumber_39 : decode cX12_plainNumber 39 = .ok (.putfield 111, 3) := by decide +kernel
theorem dX12_plainNumber_42 : decode cX12_plainNumber 42 = .ok (.iinc 2 1, 3) := by decide +kernel
theorem dX12_plainNumber_45 : decode cX12_plainNumber 45 = .ok (.goto (-41), 3) := by decide +kernel
theorem dX12_plainNumber_48 : decode cX12_plainNumber 48 = .ok (.aload_n 0, 1) := by decide +kernel
theorem dX12_plainNumber_49 : decode cX12_plainNumber 49 = .ok (.invokevirtual 114, 3) := by decide +kernel
theorem dX12_plainNumber_52 : decode cX12_plainNumber 52 = .ok (.invokestatic 133, 3) := by decide +kernel
theorem dX12_plainNumber_55 : decode cX12_plainNumber 55 = .ok (.ifCond .eq 7, 3) := by decide +kernel
theorem dX12_plainNumber_58 : decode cX12_plainNumber 58 = .ok (.aload_n 0, 1) := by decide +kernel
theorem dX12_plainNumber_59 : decode cX12_plainNumber 59 = .ok (.invokevirtual 127, 3) := by decide +kernel
theorem dX12_plainNumber_62 : decode cX12_plainNumber 62 = .ok (.iload_n 1, 1) := by decide +kernel
theorem dX12_plainNumber_63 : decode cX12_plainNumber 63 = .ok (.ireturn, 1) := by decide +kernel
theorem dX12_atom_0 : decode cX12_atom 0 = .ok (.aload_n 0, 1) := by decide +kernel
theorem dX12_atom_1 : decode cX12_atom 1 = .ok (.invokevirtual 130, 3) := by decide +kernel
theorem dX12_atom_4 : decode cX12_atom 4 = .ok (.istore_n 1, 1) := by decide +kernel
theorem dX12_atom_5 : decode cX12_atom 5 = .ok (.iload_n 1, 1) := by decide +kernel
theorem dX12_atom_6 : decode cX12_atom 6 = .ok (.invokestatic 133, 3) := by decide +kernel
theorem dX12_atom_9 : decode cX12_atom 9 = .ok (.ifCond .eq 15, 3) := by decide +kernel
theorem dX12_atom_12 : decode cX12_atom 12 = .ok (.aload_n 0, 1) := by decide +kernel
theorem dX12_atom_13 : decode cX12_atom 13 = .ok (.iconst 0, 1) := by decide +kernel
theorem dX12_atom_14 : decode cX12_atom 14 = .ok (.aload_n 0, 1) := by decide +kernel
theorem dX12_atom_15 : decode cX12_atom 15 = .ok (.invokevirtual 137, 3) := by decide +kernel
theorem dX12_atom_18 : decode cX12_atom 18 = .ok (.invokevirtual 140, 3) := by decide +kernel
theorem dX12_atom_21 : decode cX12_atom 21 = .ok (.goto 68, 3) := by decide +kernel
theorem dX12_atom_24 : decode cX12_atom 24 = .ok (.iload_n 1, 1) := by decide +kernel
theorem dX12_atom_25 : decode cX12_atom 25 = .ok (.invokestatic 144, 3) := by decide +kernel
theorem dX12_atom_28 : decode cX12_atom 28 = .ok (.iconst (-1), 1) := by decide +kernel
theorem dX12_atom_29 : decode cX12_atom 29 = .ok (.if_icmp .eq 25, 3) := by decide +kernel
theorem dX12_atom_32 : decode cX12_atom 32 = .ok (.aload_n 0, 1) := by decide +kernel
theorem dX12_atom_33 : decode cX12_atom 33 = .ok (.dup, 1) := by decide +kernel
theorem dX12_atom_34 : decode cX12_atom 34 = .ok (.getfield 111, 3) := by decide +kernel
theorem dX12_atom_37 : decode cX12_atom 37 = .ok (.iconst 1, 1) := by decide +kernel
theorem dX12_atom_38 : decode cX12_atom 38 = .ok (.iadd, 1) := by decide +kernel
theorem dX12_atom_39 : decode cX12_atom 39 = .ok (.putfield 111, 3) := by decide +kernel
theorem dX12_atom_42 : decode cX12_atom 42 = .ok (.aload_n 0, 1) := by decide +kernel
theorem dX12_atom_43 : decode cX12_atom 43 = .ok (.iconst 1, 1) := by decide +kernel
theorem dX12_atom_44 : decode cX12_atom 44 = .ok (.iload_n 1, 1) := by decide +kernel
theorem dX12_atom_45 : decode cX12_atom 45 = .ok (.invokestatic 144, 3) := by decide +kernel
theorem dX12_atom_48 : decode cX12_atom 48 = .ok (.invokevirtual 140, 3) := by decide +kernel
theorem dX12_atom_51 : decode cX12_atom 51 = .ok (.goto 38, 3) := by decide +kernel
theorem dX12_atom_54 : decode cX12_atom 54 = .ok (.iload_n 1, 1) := by decide +kernel
theorem dX12_atom_55 : decode cX12_atom 55 = .ok (.bipush 91, 2) := by decide +kernel
theorem dX12_atom_57 : decode cX12_atom 57 = .ok (.if_icmp .ne 28, 3) := by decide +kernel
theorem dX12_atom_60 : decode cX12_atom 60 = .ok (.aload_n 0, 1) := by decide +kernel
theorem dX12_atom_61 : decode cX12_atom 61 = .ok (.invokevirtual 148, 3) := by decide +kernel
theorem dX12_atom_64 : decode cX12_atom 64 = .ok (.aload_n 0, 1) := by decide +kernel
theorem dX12_atom_65 : decode cX12_atom 65 = .ok (.getfield 118, 3) := by decide +kernel
theorem dX12_atom_68 : decode cX12_atom 68 = .ok (.iconst (-1), 1) := by decide +kernel
theorem dX12_atom_69 : decode cX12_atom 69 = .ok (.if_icmp .ne 20, 3) := by decide +kernel
theorem dX12_atom_72 : decode cX12_atom 72 = .ok (.aload_n 0, 1) := by decide +kernel
theorem dX12_atom_73 : decode cX12_atom 73 = .ok (.invokevirtual 151, 3) := by decide +kernel
theorem dX12_atom_76 : decode cX12_atom 76 = .ok (.aload_n 0, 1) := by decide +kernel
theorem dX12_atom_77 : decode cX12_atom 77 = .ok (.bipush 93, 2) := by decide +kernel
theorem dX12_atom_79 : decode cX12_atom 79 = .ok (.invokevirtual 154, 3) := by decide +kernel
theorem dX12_atom_82 : decode cX12_atom 82 = .ok (.goto 7, 3) := by decide +kernel
theorem dX12_atom_85 : decode cX12_atom 85 = .ok (.aload_n 0, 1) := by decide +kernel
theorem dX12_atom_86 : decode cX12_atom 86 = .ok (.invokevirtual 127, 3) := by decide +kernel
theorem dX12_atom_89 : decode cX12_atom 89 = .ok (.return_, 1) := by decide +kernel
theorem dX12_term_0 : decode cX12_term 0 = .ok (.aload_n 0, 1) := by decide +kernel
theorem dX12_term_1 : decode cX12_term 1 = .ok (.invokevirtual 158, 3) := by decide +kernel
theorem dX12_term_4 : decode cX12_term 4 = .ok (.aload_n 0, 1) := by decide +kernel
theorem dX12_term_5 : decode cX12_term 5 = .ok (.getfield 118, 3) := by decide +kernel
theorem dX12_term_8 : decode cX12_term 8 = .ok (.iconst (-1), 1) := by decide +kernel
theorem dX12_term_9 : decode cX12_term 9 = .ok (.if_icmp .ne 10, 3) := by decide +kernel
theorem dX12_term_12 : decode cX12_term 12 = .ok (.aload_n 0, 1) := by decide +kernel
theorem dX12_term_13 : decode cX12_term 13 = .ok (.invokevirtual 130, 3) := by decide +kernel
theorem dX12_term_16 : decode cX12_term 16 = .ok (.goto 4, 3) := by decide +kernel
theorem dX12_term_19 : decode cX12_term 19 = .ok (.iconst (-1), 1) := by decide +kernel
theorem dX12_term_20 : decode cX12_term 20 = .ok (.istore_n 1, 1) := by decide +kernel
theorem dX12_term_21 : decode cX12_term 21 = .ok (.iload_n 1, 1) := by decide +kernel
theorem dX12_term_22 : decode cX12_term 22 = .ok (.bipush 42, 2) := by decide +kernel
theorem dX12_term_24 : decode cX12_term 24 = .ok (.if_icmp .eq 9, 3) := by decide +kernel
theorem dX12_term_27 : decode cX12_term 27 = .ok (.iload_n 1, 1) := by decide +kernel
theorem dX12_term_28 : decode cX12_term 28 = .ok (.bipush 47, 2) := by decide +kernel
theorem dX12_term_30 : decode cX12_term 30 = .ok (.if_icmp .ne 53, 3) := by decide +kernel
theorem dX12_term_33 : decode cX12_term 33 = .ok (.aload_n 0, 1) := by decide +kernel
theorem dX12_term_34 : decode cX12_term 34 = .ok (.dup, 1) := by decide +kernel
theorem dX12_term_35 : decode cX12_term 35 = .ok (.getfield 111, 3) := by decide +kernel
theorem dX12_term_38 : decode cX12_term 38 = .ok (.iconst 1, 1) := by decide +kernel
theorem dX12_term_39 : decode cX12_term 39 = .ok (.iadd, 1) := by decide +kernel
theorem dX12_term_40 : decode cX12_term 40 = .ok (.putfield 111, 3) := by decide +kernel
theorem dX12_term_43 : decode cX12_term 43 = .ok (.aload_n 0, 1) := by decide +kernel
theorem dX12_term_44 : decode cX12_term 44 = .ok (.invokevirtual 158, 3) := by decide +kernel
theorem dX12_term_47 : decode cX12_term 47 = .ok (.aload_n 0, 1) := by decide +kernel
theorem dX12_term_48 : decode cX12_term 48 = .ok (.iload_n 1, 1) := by decide +kernel
theorem dX12_term_49 : decode cX12_term 49 = .ok (.bipush 42, 2) := by decide +kernel
theorem dX12_term_51 : decode cX12_term 51 = .ok (.if_icmp .ne 7, 3) := by decide +kernel
theorem dX12_term_54 : decode cX12_term 54 = .ok (.iconst 4, 1) := by decide +kernel
theorem dX12_term_55 : decode cX12_term 55 = .ok (.goto 4, 3) := by decide +kernel
theorem dX12_term_58 : decode cX12_term 58 = .ok (.iconst 5, 1) := by decide +kernel
theorem dX12_term_59 : decode cX12_term 59 = .ok (.iconst 0, 1) := by decide +kernel
theorem dX12_term_60 : decode cX12_term 60 = .ok (.invokevirtual 140, 3) := by decide +kernel
theorem dX12_term_63 : decode cX12_term 63 = .ok (.aload_n 0, 1) := by decide +kernel
theorem dX12_term_64 : decode cX12_term 64 = .ok (.getfield 118, 3) := by decide +kernel
theorem dX12_term_67 : decode cX12_term 67 = .ok (.iconst (-1), 1) := by decide +kernel
theorem dX12_term_68 : decode cX12_term 68 = .ok (.if_icmp .ne 10, 3) := by decide +kernel
theorem dX12_term_71 : decode cX12_term 71 = .ok (.aload_n 0, 1) := by decide +kernel
theorem dX12_term_72 : decode cX12_term 72 = .ok (.invokevirtual 130, 3) := by decide +kernel
theorem dX12_term_75 : decode cX12_term 75 = .ok (.goto 4, 3) := by decide +kernel
theorem dX12_term_78 : decode cX12_term 78 = .ok (.iconst (-1), 1) := by decide +kernel
theorem dX12_term_79 : decode cX12_term 79 = .ok (.istore_n 1, 1) := by decide +kernel
theorem dX12_term_80 : decode cX12_term 80 = .ok (.goto (-59), 3) := by decide +kernel
theorem dX12_term_83 : decode cX12_term 83 = .ok (.return_, 1) := by decide +kernel
theorem dX12_sum_0 : decode cX12_sum 0 = .ok (.aload_n 0, 1) := by decide +kernel
theorem dX12_sum_1 : decode cX12_sum 1 = .ok (.invokevirtual 161, 3) := by decide +kernel
theorem dX12_sum_4 : decode cX12_sum 4 = .ok (.aload_n 0, 1) := by decide +kernel
theorem dX12_sum_5 : decode cX12_sum 5 = .ok (.getfield 118, 3) := by decide +kernel
theorem dX12_sum_8 : decode cX12_sum 8 = .ok (.iconst (-1), 1) := by decide +kernel
theorem dX12_sum_9 : decode cX12_sum 9 = .ok (.if_icmp .ne 10, 3) := by decide +kernel
theorem dX12_sum_12 : decode cX12_sum 12 = .ok (.aload_n 0, 1) := by decide +kernel
theorem dX12_sum_13 : decode cX12_sum 13 = .ok (.invokevirtual 130, 3) := by decide +kernel
theorem dX12_sum_16 : decode cX12_sum 16 = .ok (.goto 4, 3) := by decide +kernel
theorem dX12_sum_19 : decode cX12_sum 19 = .ok (.iconst (-1), 1) := by decide +kernel
theorem dX12_sum_20 : decode cX12_sum 20 = .ok (.istore_n 1, 1) := by decide +kernel
theorem dX12_sum_21 : decode cX12_sum 21 = .ok (.iload_n 1, 1) := by decide +kernel
theorem dX12_sum_22 : decode cX12_sum 22 = .ok (.bipush 43, 2) := by decide +kernel
theorem dX12_sum_24 : decode cX12_sum 24 = .ok (.if_icmp .eq 9, 3) := by decide +kernel
theorem dX12_sum_27 : decode cX12_sum 27 = .ok (.iload_n 1, 1) := by decide +kernel
theorem dX12_sum_28 : decode cX12_sum 28 = .ok (.bipush 45, 2) := by decide +kernel
theorem dX12_sum_30 : decode cX12_sum 30 = .ok (.if_icmp .ne 53, 3) := by decide +kernel
theorem dX12_sum_33 : decode cX12_sum 33 = .ok (.aload_n 0, 1) := by decide +kernel
theorem dX12_sum_34 : decode cX12_sum 34 = .ok (.dup, 1) := by decide +kernel
theorem dX12_sum_35 : decode cX12_sum 35 = .ok (.getfield 111, 3) := by decide +kernel
theorem dX12_sum_38 : decode cX12_sum 38 = .ok (.iconst 1, 1) := by decide +kernel
theorem dX12_sum_39 : decode cX12_sum 39 = .ok (.iadd, 1) := by decide +kernel
theorem dX12_sum_40 : decode cX12_sum 40 = .ok (.putfield 111, 3) := by decide +kernel
theorem dX12_sum_43 : decode cX12_sum 43 = .ok (.aload_n 0, 1) := by decide +kernel
theorem dX12_sum_44 : decode cX12_sum 44 = .ok (.invokevirtual 161, 3) := by decide +kernel
theorem dX12_sum_47 : decode cX12_sum 47 = .ok (.aload_n 0, 1) := by decide +kernel
theorem dX12_sum_48 : decode cX12_sum 48 = .ok (.iload_n 1, 1) := by decide +kernel
theorem dX12_sum_49 : decode cX12_sum 49 = .ok (.bipush 43, 2) := by decide +kernel
theorem dX12_sum_51 : decode cX12_sum 51 = .ok (.if_icmp .ne 7, 3) := by decide +kernel
theorem dX12_sum_54 : decode cX12_sum 54 = .ok (.iconst 2, 1) := by decide +kernel
theorem dX12_sum_55 : decode cX12_sum 55 = .ok (.goto 4, 3) := by decide +kernel
theorem dX12_sum_58 : decode cX12_sum 58 = .ok (.iconst 3, 1) := by decide +kernel
theorem dX12_sum_59 : decode cX12_sum 59 = .ok (.iconst 0, 1) := by decide +kernel
theorem dX12_sum_60 : decode cX12_sum 60 = .ok (.invokevirtual 140, 3) := by decide +kernel
theorem dX12_sum_63 : decode cX12_sum 63 = .ok (.aload_n 0, 1) := by decide +kernel
theorem dX12_sum_64 : decode cX12_sum 64 = .ok (.getfield 118, 3) := by decide +kernel
theorem dX12_sum_67 : decode cX12_sum 67 = .ok (.iconst (-1), 1) := by decide +kernel
theorem dX12_sum_68 : decode cX12_sum 68 = .ok (.if_icmp .ne 10, 3) := by decide +kernel
theorem dX12_sum_71 : decode cX12_sum 71 = .ok (.aload_n 0, 1) := by decide +kernel
theorem dX12_sum_72 : decode cX12_sum 72 = .ok (.invokevirtual 130, 3) := by decide +kernel
theorem dX12_sum_75 : decode cX12_sum 75 = .ok (.goto 4, 3) := by decide +kernel
theorem dX12_sum_78 : decode cX12_sum 78 = .ok (.iconst (-1), 1) := by decide +kernel
theorem dX12_sum_79 : decode cX12_sum 79 = .ok (.istore_n 1, 1) := by decide +kernel
theorem dX12_sum_80 : decode cX12_sum 80 = .ok (.goto (-59), 3) := by decide +kernel
theorem dX12_sum_83 : decode cX12_sum 83 = .ok (.return_, 1) := by decide +kernel
theorem dX12_isSign_0 : decode cX12_isSign 0 = .ok (.iload_n 0, 1) := by decide +kernel
theorem dX12_isSign_1 : decode cX12_isSign 1 = .ok (.bipush 61, 2) := by decide +kernel
theorem dX12_isSign_3 : decode cX12_isSign 3 = .ok (.if_icmp .eq 15, 3) := by decide +kernel
theorem dX12_isSign_6 : decode cX12_isSign 6 = .ok (.iload_n 0, 1) := by decide +kernel
theorem dX12_isSign_7 : decode cX12_isSign 7 = .ok (.bipush 60, 2) := by decide +kernel
theorem dX12_isSign_9 : decode cX12_isSign 9 = .ok (.if_icmp .eq 9, 3) := by decide +kernel
theorem dX12_isSign_12 : decode cX12_isSign 12 = .ok (.iload_n 0, 1) := by decide +kernel
theorem dX12_isSign_13 : decode cX12_isSign 13 = .ok (.bipush 62, 2) := by decide +kernel
theorem dX12_isSign_15 : decode cX12_isSign 15 = .ok (.if_icmp .ne 7, 3) := by decide +kernel
theorem dX12_isSign_18 : decode cX12_isSign 18 = .ok (.iconst 1, 1) := by decide +kernel
theorem dX12_isSign_19 : decode cX12_isSign 19 = .ok (.goto 4, 3) := by decide +kernel
theorem dX12_isSign_22 : decode cX12_isSign 22 = .ok (.iconst 0, 1) := by decide +kernel
theorem dX12_isSign_23 : decode cX12_isSign 23 = .ok (.ireturn, 1) := by decide +kernel
theorem dX12_compare_0 : decode cX12_compare 0 = .ok (.aload_n 0, 1) := by decide +kernel
theorem dX12_compare_1 : decode cX12_compare 1 = .ok (.getfield 118, 3) := by decide +kernel
theorem dX12_compare_4 : decode cX12_compare 4 = .ok (.iconst (-1), 1) := by decide +kernel
theorem dX12_compare_5 : decode cX12_compare 5 = .ok (.if_icmp .ne 10, 3) := by decide +kernel
theorem dX12_compare_8 : decode cX12_compare 8 = .ok (.aload_n 0, 1) := by decide +kernel
theorem dX12_compare_9 : decode cX12_compare 9 = .ok (.invokevirtual 130, 3) := by decide +kernel
theorem dX12_compare_12 : decode cX12_compare 12 = .ok (.goto 4, 3) := by decide +kernel
theorem dX12_compare_15 : decode cX12_compare 15 = .ok (.iconst (-1), 1) := by decide +kernel
theorem dX12_compare_16 : decode cX12_compare 16 = .ok (.istore_n 1, 1) := by decide +kernel
theorem dX12_compare_17 : decode cX12_compare 17 = .ok (.iload_n 1, 1) := by decide +kernel
theorem dX12_compare_18 : decode cX12_compare 18 = .ok (.invokestatic 164, 3) := by decide +kernel
theorem dX12_compare_21 : decode cX12_compare 21 = .ok (.ifCond .ne 8, 3) := by decide +kernel
theorem dX12_compare_24 : decode cX12_compare 24 = .ok (.aload_n 0, 1) := by decide +kernel
theorem dX12_compare_25 : decode cX12_compare 25 = .ok (.invokevirtual 127, 3) := by decide +kernel
theorem dX12_compare_28 : decode cX12_compare 28 = .ok (.return_, 1) := by decide +kernel
theorem dX12_compare_29 : decode cX12_compare 29 = .ok (.aload_n 0, 1) := by decide +kernel
theorem dX12_compare_30 : decode cX12_compare 30 = .ok (.dup, 1) := by decide +kernel
theorem dX12_compare_31 : decode cX12_compare 31 = .ok (.getfield 111, 3) := by decide +kernel
theorem dX12_compare_34 : decode cX12_compare 34 = .ok (.iconst 1, 1) := by decide +kernel
theorem dX12_compare_35 : decode cX12_compare 35 = .ok (.iadd, 1) := by decide +kernel
theorem dX12_compare_36 : decode cX12_compare 36 = .ok (.putfield 111, 3) := by decide +kernel
theorem dX12_compare_39 : decode cX12_compare 39 = .ok (.aload_n 0, 1) := by decide +kernel
theorem dX12_compare_40 : decode cX12_compare 40 = .ok (.invokevirtual 151, 3) := by decide +kernel
theorem dX12_compare_43 : decode cX12_compare 43 = .ok (.aload_n 0, 1) := by decide +kernel
theorem dX12_compare_44 : decode cX12_compare 44 = .ok (.iload_n 1, 1) := by decide +kernel
theorem dX12_compare_45 : decode cX12_compare 45 = .ok (.bipush 61, 2) := by decide +kernel
theorem dX12_compare_47 : decode cX12_compare 47 = .ok (.if_icmp .ne 8, 3) := by decide +kernel
theorem dX12_compare_50 : decode cX12_compare 50 = .ok (.bipush 6, 2) := by decide +kernel
theorem dX12_compare_52 : decode cX12_compare 52 = .ok (.goto 16, 3) := by decide +kernel
theorem dX12_compare_55 : decode cX12_compare 55 = .ok (.iload_n 1, 1) := by decide +kernel
theorem dX12_compare_56 : decode cX12_compare 56 = .ok (.bipush 60, 2) := by decide +kernel
theorem dX12_compare_58 : decode cX12_compare 58 = .ok (.if_icmp .ne 8, 3) := by decide +kernel
theorem dX12_compare_61 : decode cX12_compare 61 = .ok (.bipush 7, 2) := by decide +kernel
theorem dX12_compare_63 : decode cX12_compare 63 = .ok (.goto 5, 3) := by decide +kernel
theorem dX12_compare_66 : decode cX12_compare 66 = .ok (.bipush 8, 2) := by decide +kernel
theorem dX12_compare_68 : decode cX12_compare 68 = .ok (.iconst 0, 1) := by decide +kernel
theorem dX12_compare_69 : decode cX12_compare 69 = .ok (.invokevirtual 140, 3) := by decide +kernel
theorem dX12_compare_72 : decode cX12_compare 72 = .ok (.return_, 1) := by decide +kernel
theorem dX12_unit_0 : decode cX12_unit 0 = .ok (.aload_n 0, 1) := by decide +kernel
theorem dX12_unit_1 : decode cX12_unit 1 = .ok (.invokevirtual 130, 3) := by decide +kernel
theorem dX12_unit_4 : decode cX12_unit 4 = .ok (.istore_n 1, 1) := by decide +kernel
theorem dX12_unit_5 : decode cX12_unit 5 = .ok (.iload_n 1, 1) := by decide +kernel
theorem dX12_unit_6 : decode cX12_unit 6 = .ok (.bipush 33, 2) := by decide +kernel
theorem dX12_unit_8 : decode cX12_unit 8 = .ok (.if_icmp .ne 39, 3) := by decide +kernel
theorem dX12_unit_11 : decode cX12_unit 11 = .ok (.aload_n 0, 1) := by decide +kernel
theorem dX12_unit_12 : decode cX12_unit 12 = .ok (.invokevirtual 148, 3) := by decide +kernel
theorem dX12_unit_15 : decode cX12_unit 15 = .ok (.aload_n 0, 1) := by decide +kernel
theorem dX12_unit_16 : decode cX12_unit 16 = .ok (.getfield 118, 3) := by decide +kernel
theorem dX12_unit_19 : decode cX12_unit 19 = .ok (.iconst (-1), 1) := by decide +kernel
theorem dX12_unit_20 : decode cX12_unit 20 = .ok (.if_icmp .ne 74, 3) := by decide +kernel
theorem dX12_unit_23 : decode cX12_unit 23 = .ok (.aload_n 0, 1) := by decide +kernel
theorem dX12_unit_24 : decode cX12_unit 24 = .ok (.invokevirtual 167, 3) := by decide +kernel
theorem dX12_unit_27 : decode cX12_unit 27 = .ok (.aload_n 0, 1) := by decide +kernel
theorem dX12_unit_28 : decode cX12_unit 28 = .ok (.bipush 9, 2) := by decide +kernel
theorem dX12_unit_30 : decode cX12_unit 30 = .ok (.iconst 0, 1) := by decide +kernel
theorem dX12_unit_31 : decode cX12_unit 31 = .ok (.invokevirtual 140, 3) := by decide +kernel
theorem dX12_unit_34 : decode cX12_unit 34 = .ok (.aload_n 0, 1) := by decide +kernel
theorem dX12_unit_35 : decode cX12_unit 35 = .ok (.dup, 1) := by decide +kernel
theorem dX12_unit_36 : decode cX12_unit 36 = .ok (.getfield 124, 3) := by decide +kernel
theorem dX12_unit_39 : decode cX12_unit 39 = .ok (.iconst 1, 1) := by decide +kernel
theorem dX12_unit_40 : decode cX12_unit 40 = .ok (.isub, 1) := by decide +kernel
theorem dX12_unit_41 : decode cX12_unit 41 = .ok (.putfield 124, 3) := by decide +kernel
theorem dX12_unit_44 : decode cX12_unit 44 = .ok (.goto 50, 3) := by decide +kernel
theorem dX12_unit_47 : decode cX12_unit 47 = .ok (.iload_n 1, 1) := by decide +kernel
theorem dX12_unit_48 : decode cX12_unit 48 = .ok (.bipush 40, 2) := by decide +kernel
theorem dX12_unit_50 : decode cX12_unit 50 = .ok (.if_icmp .ne 28, 3) := by decide +kernel
theorem dX12_unit_53 : decode cX12_unit 53 = .ok (.aload_n 0, 1) := by decide +kernel
theorem dX12_unit_54 : decode cX12_unit 54 = .ok (.invokevirtual 148, 3) := by decide +kernel
theorem dX12_unit_57 : decode cX12_unit 57 = .ok (.aload_n 0, 1) := by decide +kernel
theorem dX12_unit_58 : decode cX12_unit 58 = .ok (.getfield 118, 3) := by decide +kernel
theorem dX12_unit_61 : decode cX12_unit 61 = .ok (.iconst (-1), 1) := by decide +kernel
theorem dX12_unit_62 : decode cX12_unit 62 = .ok (.if_icmp .ne 32, 3) := by decide +kernel
theorem dX12_unit_65 : decode cX12_unit 65 = .ok (.aload_n 0, 1) := by decide +kernel
theorem dX12_unit_66 : decode cX12_unit 66 = .ok (.invokevirtual 170, 3) := by decide +kernel
theorem dX12_unit_69 : decode cX12_unit 69 = .ok (.aload_n 0, 1) := by decide +kernel
theorem dX12_unit_70 : decode cX12_unit 70 = .ok (.bipush 41, 2) := by decide +kernel
theorem dX12_unit_72 : decode cX12_unit 72 = .ok (.invokevirtual 154, 3) := by decide +kernel
theorem dX12_unit_75 : decode cX12_unit 75 = .ok (.goto 19, 3) := by decide +kernel
theorem dX12_unit_78 : decode cX12_unit 78 = .ok (.aload_n 0, 1) := by decide +kernel
theorem dX12_unit_79 : decode cX12_unit 79 = .ok (.invokevirtual 151, 3) := by decide +kernel
theorem dX12_unit_82 : decode cX12_unit 82 = .ok (.aload_n 0, 1) := by decide +kernel
theorem dX12_unit_83 : decode cX12_unit 83 = .ok (.getfield 118, 3) := by decide +kernel
theorem dX12_unit_86 : decode cX12_unit 86 = .ok (.iconst (-1), 1) := by decide +kernel
theorem dX12_unit_87 : decode cX12_unit 87 = .ok (.if_icmp .ne 7, 3) := by decide +kernel
theorem dX12_unit_90 : decode cX12_unit 90 = .ok (.aload_n 0, 1) := by decide +kernel
theorem dX12_unit_91 : decode cX12_unit 91 = .ok (.invokevirtual 173, 3) := by decide +kernel
theorem dX12_unit_94 : decode cX12_unit 94 = .ok (.return_, 1) := by decide +kernel
theorem dX12_goOnAnd_0 : decode cX12_goOnAnd 0 = .ok (.aload_n 0, 1) := by decide +kernel
theorem dX12_goOnAnd_1 : decode cX12_goOnAnd 1 = .ok (.getfield 118, 3) := by decide +kernel
theorem dX12_goOnAnd_4 : decode cX12_goOnAnd 4 = .ok (.iconst (-1), 1) := by decide +kernel
theorem dX12_goOnAnd_5 : decode cX12_goOnAnd 5 = .ok (.if_icmp .ne 36, 3) := by decide +kernel
theorem dX12_goOnAnd_8 : decode cX12_goOnAnd 8 = .ok (.aload_n 0, 1) := by decide +kernel
theorem dX12_goOnAnd_9 : decode cX12_goOnAnd 9 = .ok (.invokevirtual 130, 3) := by decide +kernel
theorem dX12_goOnAnd_12 : decode cX12_goOnAnd 12 = .ok (.bipush 38, 2) := by decide +kernel
theorem dX12_goOnAnd_14 : decode cX12_goOnAnd 14 = .ok (.if_icmp .ne 27, 3) := by decide +kernel
theorem dX12_goOnAnd_17 : decode cX12_goOnAnd 17 = .ok (.aload_n 0, 1) := by decide +kernel
theorem dX12_goOnAnd_18 : decode cX12_goOnAnd 18 = .ok (.dup, 1) := by decide +kernel
theorem dX12_goOnAnd_19 : decode cX12_goOnAnd 19 = .ok (.getfield 111, 3) := by decide +kernel
theorem dX12_goOnAnd_22 : decode cX12_goOnAnd 22 = .ok (.iconst 1, 1) := by decide +kernel
theorem dX12_goOnAnd_23 : decode cX12_goOnAnd 23 = .ok (.iadd, 1) := by decide +kernel
theorem dX12_goOnAnd_24 : decode cX12_goOnAnd 24 = .ok (.putfield 111, 3) := by decide +kernel
theorem dX12_goOnAnd_27 : decode cX12_goOnAnd 27 = .ok (.aload_n 0, 1) := by decide +kernel
theorem dX12_goOnAnd_28 : decode cX12_goOnAnd 28 = .ok (.invokevirtual 167, 3) := by decide +kernel
theorem dX12_goOnAnd_31 : decode cX12_goOnAnd 31 = .ok (.aload_n 0, 1) := by decide +kernel
theorem dX12_goOnAnd_32 : decode cX12_goOnAnd 32 = .ok (.bipush 10, 2) := by decide +kernel
theorem dX12_goOnAnd_34 : decode cX12_goOnAnd 34 = .ok (.iconst 0, 1) := by decide +kernel
theorem dX12_goOnAnd_35 : decode cX12_goOnAnd 35 = .ok (.invokevirtual 140, 3) := by decide +kernel
theorem dX12_goOnAnd_38 : decode cX12_goOnAnd 38 = .ok (.goto (-38), 3) := by decide +kernel
theorem dX12_goOnAnd_41 : decode cX12_goOnAnd 41 = .ok (.return_, 1) := by decide +kernel
theorem dX12_goOnOr_0 : decode cX12_goOnOr 0 = .ok (.aload_n 0, 1) := by decide +kernel
theorem dX12_goOnOr_1 : decode cX12_goOnOr 1 = .ok (.getfield 118, 3) := by decide +kernel
theorem dX12_goOnOr_4 : decode cX12_goOnOr 4 = .ok (.iconst (-1), 1) := by decide +kernel
theorem dX12_goOnOr_5 : decode cX12_goOnOr 5 = .ok (.if_icmp .ne 40, 3) := by decide +kernel
theorem dX12_goOnOr_8 : decode cX12_goOnOr 8 = .ok (.aload_n 0, 1) := by decide +kernel
theorem dX12_goOnOr_9 : decode cX12_goOnOr 9 = .ok (.invokevirtual 130, 3) := by decide +kernel
theorem dX12_goOnOr_12 : decode cX12_goOnOr 12 = .ok (.bipush 124, 2) := by decide +kernel
theorem dX12_goOnOr_14 : decode cX12_goOnOr 14 = .ok (.if_icmp .ne 31, 3) := by decide +kernel
theorem dX12_goOnOr_17 : decode cX12_goOnOr 17 = .ok (.aload_n 0, 1) := by decide +kernel
theorem dX12_goOnOr_18 : decode cX12_goOnOr 18 = .ok (.dup, 1) := by decide +kernel
theorem dX12_goOnOr_19 : decode cX12_goOnOr 19 = .ok (.getfield 111, 3) := by decide +kernel
theorem dX12_goOnOr_22 : decode cX12_goOnOr 22 = .ok (.iconst 1, 1) := by decide +kernel
theorem dX12_goOnOr_23 : decode cX12_goOnOr 23 = .ok (.iadd, 1) := by decide +kernel
theorem dX12_goOnOr_24 : decode cX12_goOnOr 24 = .ok (.putfield 111, 3) := by decide +kernel
theorem dX12_goOnOr_27 : decode cX12_goOnOr 27 = .ok (.aload_n 0, 1) := by decide +kernel
theorem dX12_goOnOr_28 : decode cX12_goOnOr 28 = .ok (.invokevirtual 167, 3) := by decide +kernel
theorem dX12_goOnOr_31 : decode cX12_goOnOr 31 = .ok (.aload_n 0, 1) := by decide +kernel
theorem dX12_goOnOr_32 : decode cX12_goOnOr 32 = .ok (.invokevirtual 176, 3) := by decide +kernel
theorem dX12_goOnOr_35 : decode cX12_goOnOr 35 = .ok (.aload_n 0, 1) := by decide +kernel
theorem dX12_goOnOr_36 : decode cX12_goOnOr 36 = .ok (.bipush 11, 2) := by decide +kernel
theorem dX12_goOnOr_38 : decode cX12_goOnOr 38 = .ok (.iconst 0, 1) := by decide +kernel
theorem dX12_goOnOr_39 : decode cX12_goOnOr 39 = .ok (.invokevirtual 140, 3) := by decide +kernel
theorem dX12_goOnOr_42 : decode cX12_goOnOr 42 = .ok (.goto (-42), 3) := by decide +kernel
theorem dX12_goOnOr_45 : decode cX12_goOnOr 45 = .ok (.return_, 1) := by decide +kernel
theorem dX12_condition_0 : decode cX12_condition 0 = .ok (.aload_n 0, 1) := by decide +kernel
theorem dX12_condition_1 : decode cX12_condition 1 = .ok (.invokevirtual 167, 3) := by decide +kernel
theorem dX12_condition_4 : decode cX12_condition 4 = .ok (.aload_n 0, 1) := by decide +kernel
theorem dX12_condition_5 : decode cX12_condition 5 = .ok (.invokevirtual 176, 3) := by decide +kernel
theorem dX12_condition_8 : decode cX12_condition 8 = .ok (.aload_n 0, 1) := by decide +kernel
theorem dX12_condition_9 : decode cX12_condition 9 = .ok (.invokevirtual 179, 3) := by decide +kernel
theorem dX12_condition_12 : decode cX12_condition 12 = .ok (.return_, 1) := by decide +kernel
theorem dX12_clause_0 : decode cX12_clause 0 = .ok (.bipush 90, 2) := by decide +kernel
theorem dX12_clause_2 : decode cX12_clause 2 = .ok (.aload_n 0, 1) := by decide +kernel
theorem dX12_clause_3 : decode cX12_clause 3 = .ok (.getfield 121, 3) := by decide +kernel
theorem dX12_clause_6 : decode cX12_clause 6 = .ok (.imul, 1) := by decide +kernel
theorem dX12_clause_7 : decode cX12_clause 7 = .ok (.aload_n 0, 1) := by decide +kernel
theorem dX12_clause_8 : decode cX12_clause 8 = .ok (.getfield 22, 3) := by decide +kernel
theorem dX12_clause_11 : decode cX12_clause 11 = .ok (.aload_n 0, 1) := by decide +kernel
theorem dX12_clause_12 : decode cX12_clause 12 = .ok (.getfield 121, 3) := by decide +kernel
theorem dX12_clause_15 : decode cX12_clause 15 = .ok (.iaload, 1) := by decide +kernel
theorem dX12_clause_16 : decode cX12_clause 16 = .ok (.iadd, 1) := by decide +kernel
theorem dX12_clause_17 : decode cX12_clause 17 = .ok (.istore_n 1, 1) := by decide +kernel
theorem dX12_clause_18 : decode cX12_clause 18 = .ok (.aload_n 0, 1) := by decide +kernel
theorem dX12_clause_19 : decode cX12_clause 19 = .ok (.getfield 118, 3) := by decide +kernel
theorem dX12_clause_22 : decode cX12_clause 22 = .ok (.iconst (-1), 1) := by decide +kernel
theorem dX12_clause_23 : decode cX12_clause 23 = .ok (.if_icmp .ne 16, 3) := by decide +kernel
theorem dX12_clause_26 : decode cX12_clause 26 = .ok (.aload_n 0, 1) := by decide +kernel
theorem dX12_clause_27 : decode cX12_clause 27 = .ok (.invokevirtual 130, 3) := by decide +kernel
theorem dX12_clause_30 : decode cX12_clause 30 = .ok (.bipush 121, 2) := by decide +kernel
theorem dX12_clause_32 : decode cX12_clause 32 = .ok (.if_icmp .eq 7, 3) := by decide +kernel
theorem dX12_clause_35 : decode cX12_clause 35 = .ok (.aload_n 0, 1) := by decide +kernel
theorem dX12_clause_36 : decode cX12_clause 36 = .ok (.invokevirtual 127, 3) := by decide +kernel
theorem dX12_clause_39 : decode cX12_clause 39 = .ok (.aload_n 0, 1) := by decide +kernel
theorem dX12_clause_40 : decode cX12_clause 40 = .ok (.dup, 1) := by decide +kernel
theorem dX12_clause_41 : decode cX12_clause 41 = .ok (.getfield 111, 3) := by decide +kernel
theorem dX12_clause_44 : decode cX12_clause 44 = .ok (.iconst 1, 1) := by decide +kernel
theorem dX12_clause_45 : decode cX12_clause 45 = .ok (.iadd, 1) := by decide +kernel
theorem dX12_clause_46 : decode cX12_clause 46 = .ok (.putfield 111, 3) := by decide +kernel
theorem dX12_clause_49 : decode cX12_clause 49 = .ok (.aload_n 0, 1) := by decide +kernel
theorem dX12_clause_50 : decode cX12_clause 50 = .ok (.getfield 118, 3) := by decide +kernel
theorem dX12_clause_53 : decode cX12_clause 53 = .ok (.iconst (-1), 1) := by decide +kernel
theorem dX12_clause_54 : decode cX12_clause 54 = .ok (.if_icmp .ne 16, 3) := by decide +kernel
theorem dX12_clause_57 : decode cX12_clause 57 = .ok (.aload_n 0, 1) := by decide +kernel
theorem dX12_clause_58 : decode cX12_clause 58 = .ok (.invokevirtual 130, 3) := by decide +kernel
theorem dX12_clause_61 : decode cX12_clause 61 = .ok (.bipush 58, 2) := by decide +kernel
theorem dX12_clause_63 : decode cX12_clause 63 = .ok (.if_icmp .eq 7, 3) := by decide +kernel
theorem dX12_clause_66 : decode cX12_clause 66 = .ok (.aload_n 0, 1) := by decide +kernel
theorem dX12_clause_67 : decode cX12_clause 67 = .ok (.invokevirtual 127, 3) := by decide +kernel
theorem dX12_clause_70 : decode cX12_clause 70 = .ok (.aload_n 0, 1) := by decide +kernel
theorem dX12_clause_71 : decode cX12_clause 71 = .ok (.dup, 1) := by decide +kernel
theorem dX12_clause_72 : decode cX12_clause 72 = .ok (.getfield 111, 3) := by decide +kernel
theorem dX12_clause_75 : decode cX12_clause 75 = .ok (.iconst 1, 1) := by decide +kernel
theorem dX12_clause_76 : decode cX12_clause 76 = .ok (.iadd, 1) := by decide +kernel
theorem dX12_clause_77 : decode cX12_clause 77 = .ok (.putfield 111, 3) := by decide +kernel
theorem dX12_clause_80 : decode cX12_clause 80 = .ok (.aload_n 0, 1) := by decide +kernel
theorem dX12_clause_81 : decode cX12_clause 81 = .ok (.getfield 118, 3) := by decide +kernel
theorem dX12_clause_84 : decode cX12_clause 84 = .ok (.iconst (-1), 1) := by decide +kernel
theorem dX12_clause_85 : decode cX12_clause 85 = .ok (.if_icmp .eq 4, 3) := by decide +kernel
theorem dX12_clause_88 : decode cX12_clause 88 = .ok (.return_, 1) := by decide +kernel
theorem dX12_clause_89 : decode cX12_clause 89 = .ok (.aload_n 0, 1) := by decide +kernel
theorem dX12_clause_90 : decode cX12_clause 90 = .ok (.getfield 25, 3) := by decide +kernel
theorem dX12_clause_93 : decode cX12_clause 93 = .ok (.iload_n 1, 1) := by decide +kernel
theorem dX12_clause_94 : decode cX12_clause 94 = .ok (.aload_n 0, 1) := by decide +kernel
theorem dX12_clause_95 : decode cX12_clause 95 = .ok (.getfield 19, 3) := by decide +kernel
theorem dX12_clause_98 : decode cX12_clause 98 = .ok (.aload_n 0, 1) := by decide +kernel
theorem dX12_clause_99 : decode cX12_clause 99 = .ok (.getfield 121, 3) := by decide +kernel
theorem dX12_clause_102 : decode cX12_clause 102 = .ok (.iaload, 1) := by decide +kernel
theorem dX12_clause_103 : decode cX12_clause 103 = .ok (.iastore, 1) := by decide +kernel
theorem dX12_clause_104 : decode cX12_clause 104 = .ok (.aload_n 0, 1) := by decide +kernel
theorem dX12_clause_105 : decode cX12_clause 105 = .ok (.invokevirtual 130, 3) := by decide +kernel
theorem dX12_clause_108 : decode cX12_clause 108 = .ok (.bipush 33, 2) := by decide +kernel
theorem dX12_clause_110 : decode cX12_clause 110 = .ok (.if_icmp .eq 12, 3) := by decide +kernel
theorem dX12_clause_113 : decode cX12_clause 113 = .ok (.aload_n 0, 1) := by decide +kernel
theorem dX12_clause_114 : decode cX12_clause 114 = .ok (.invokevirtual 130, 3) := by decide +kernel
theorem dX12_clause_117 : decode cX12_clause 117 = .ok (.bipush 40, 2) := by decide +kernel
theorem dX12_clause_119 : decode cX12_clause 119 = .ok (.if_icmp .ne 7, 3) := by decide +kernel
theorem dX12_clause_122 : decode cX12_clause 122 = .ok (.iconst 1, 1) := by decide +kernel
theorem dX12_clause_123 : decode cX12_clause 123 = .ok (.goto 4, 3) := by decide +kernel
theorem dX12_clause_126 : decode cX12_clause 126 = .ok (.iconst 0, 1) := by decide +kernel
theorem dX12_clause_127 : decode cX12_clause 127 = .ok (.istore_n 2, 1) := by decide +kernel
theorem dX12_clause_128 : decode cX12_clause 128 = .ok (.iload_n 2, 1) := by decide +kernel
theorem dX12_clause_129 : decode cX12_clause 129 = .ok (.ifCond .eq 10, 3) := by decide +kernel
theorem dX12_clause_132 : decode cX12_clause 132 = .ok (.aload_n 0, 1) := by decide +kernel
theorem dX12_clause_133 : decode cX12_clause 133 = .ok (.invokevirtual 170, 3) := by decide +kernel
theorem dX12_clause_136 : decode cX12_clause 136 = .ok (.goto 47, 3) := by decide +kernel
theorem dX12_clause_139 : decode cX12_clause 139 = .ok (.aload_n 0, 1) := by decide +kernel
theorem dX12_clause_140 : decode cX12_clause 140 = .ok (.invokevirtual 151, 3) := by decide +kernel
theorem dX12_clause_143 : decode cX12_clause 143 = .ok (.aload_n 0, 1) := by decide +kernel
theorem dX12_clause_144 : decode cX12_clause 144 = .ok (.getfield 118, 3) := by decide +kernel
theorem dX12_clause_147 : decode cX12_clause 147 = .ok (.iconst (-1), 1) := by decide +kernel
theorem dX12_clause_148 : decode cX12_clause 148 = .ok (.if_icmp .ne 17, 3) := by decide +kernel
theorem dX12_clause_151 : decode cX12_clause 151 = .ok (.aload_n 0, 1) := by decide +kernel
theorem dX12_clause_152 : decode cX12_clause 152 = .ok (.invokevirtual 130, 3) := by decide +kernel
theorem dX12_clause_155 : decode cX12_clause 155 = .ok (.invokestatic 164, 3) := by decide +kernel
theorem dX12_clause_158 : decode cX12_clause 158 = .ok (.ifCond .eq 7, 3) := by decide +kernel
theorem dX12_clause_161 : decode cX12_clause 161 = .ok (.iconst 1, 1) := by decide +kernel
theorem dX12_clause_162 : decode cX12_clause 162 = .ok (.goto 4, 3) := by decide +kernel
theorem dX12_clause_165 : decode cX12_clause 165 = .ok (.iconst 0, 1) := by decide +kernel
theorem dX12_clause_166 : decode cX12_clause 166 = .ok (.istore_n 2, 1) := by decide +kernel
theorem dX12_clause_167 : decode cX12_clause 167 = .ok (.iload_n 2, 1) := by decide +kernel
theorem dX12_clause_168 : decode cX12_clause 168 = .ok (.ifCond .eq 15, 3) := by decide +kernel
theorem dX12_clause_171 : decode cX12_clause 171 = .ok (.aload_n 0, 1) := by decide +kernel
theorem dX12_clause_172 : decode cX12_clause 172 = .ok (.invokevirtual 173, 3) := by decide +kernel
theorem dX12_clause_175 : decode cX12_clause 175 = .ok (.aload_n 0, 1) := by decide +kernel
theorem dX12_clause_176 : decode cX12_clause 176 = .ok (.invokevirtual 176, 3) := by decide +kernel
theorem dX12_clause_179 : decode cX12_clause 179 = .ok (.aload_n 0, 1) := by decide +kernel
theorem dX12_clause_180 : decode cX12_clause 180 = .ok (.invokevirtual 179, 3) := by decide +kernel
theorem dX12_clause_183 : decode cX12_clause 183 = .ok (.aload_n 0, 1) := by decide +kernel
theorem dX12_clause_184 : decode cX12_clause 184 = .ok (.getfield 28, 3) := by decide +kernel
theorem dX12_clause_187 : decode cX12_clause 187 = .ok (.iload_n 1, 1) := by decide +kernel
theorem dX12_clause_188 : decode cX12_clause 188 = .ok (.aload_n 0, 1) := by decide +kernel
theorem dX12_clause_189 : decode cX12_clause 189 = .ok (.getfield 25, 3) := by decide +kernel
theorem dX12_clause_192 : decode cX12_clause 192 = .ok (.iload_n 1, 1) := by decide +kernel
theorem dX12_clause_193 : decode cX12_clause 193 = .ok (.iaload, 1) := by decide +kernel
theorem dX12_clause_194 : decode cX12_clause 194 = .ok (.iastore, 1) := by decide +kernel
theorem dX12_clause_195 : decode cX12_clause 195 = .ok (.iload_n 2, 1) := by decide +kernel
theorem dX12_clause_196 : decode cX12_clause 196 = .ok (.ifCond .eq 54, 3) := by decide +kernel
theorem dX12_clause_199 : decode cX12_clause 199 = .ok (.aload_n 0, 1) := by decide +kernel
theorem dX12_clause_200 : decode cX12_clause 200 = .ok (.getfield 118, 3) := by decide +kernel
theorem dX12_clause_203 : decode cX12_clause 203 = .ok (.iconst (-1), 1) := by decide +kernel
theorem dX12_clause_204 : decode cX12_clause 204 = .ok (.if_icmp .ne 46, 3) := by decide +kernel
theorem dX12_clause_207 : decode cX12_clause 207 = .ok (.aload_n 0, 1) := by decide +kernel
theorem dX12_clause_208 : decode cX12_clause 208 = .ok (.invokevirtual 130, 3) := by decide +kernel
theorem dX12_clause_211 : decode cX12_clause 211 = .ok (.bipush 63, 2) := by decide +kernel
theorem dX12_clause_213 : decode cX12_clause 213 = .ok (.if_icmp .eq 8, 3) := by decide +kernel
theorem dX12_clause_216 : decode cX12_clause 216 = .ok (.aload_n 0, 1) := by decide +kernel
theorem dX12_clause_217 : decode cX12_clause 217 = .ok (.invokevirtual 127, 3) := by decide +kernel
theorem dX12_clause_220 : decode cX12_clause 220 = .ok (.return_, 1) := by decide +kernel
theorem dX12_clause_221 : decode cX12_clause 221 = .ok (.aload_n 0, 1) := by decide +kernel
theorem dX12_clause_222 : decode cX12_clause 222 = .ok (.dup, 1) := by decide +kernel
theorem dX12_clause_223 : decode cX12_clause 223 = .ok (.getfield 111, 3) := by decide +kernel
theorem dX12_clause_226 : decode cX12_clause 226 = .ok (.iconst 1, 1) := by decide +kernel
theorem dX12_clause_227 : decode cX12_clause 227 = .ok (.iadd, 1) := by decide +kernel
theorem dX12_clause_228 : decode cX12_clause 228 = .ok (.putfield 111, 3) := by decide +kernel
theorem dX12_clause_231 : decode cX12_clause 231 = .ok (.aload_n 0, 1) := by decide +kernel
theorem dX12_clause_232 : decode cX12_clause 232 = .ok (.getfield 28, 3) := by decide +kernel
theorem dX12_clause_235 : decode cX12_clause 235 = .ok (.iload_n 1, 1) := by decide +kernel
theorem dX12_clause_236 : decode cX12_clause 236 = .ok (.aload_n 0, 1) := by decide +kernel
theorem dX12_clause_237 : decode cX12_clause 237 = .ok (.getfield 19, 3) := by decide +kernel
theorem dX12_clause_240 : decode cX12_clause 240 = .ok (.aload_n 0, 1) := by decide +kernel
theorem dX12_clause_241 : decode cX12_clause 241 = .ok (.getfield 121, 3) := by decide +kernel
theorem dX12_clause_244 : decode cX12_clause 244 = .ok (.iaload, 1) := by decide +kernel
theorem dX12_clause_245 : decode cX12_clause 245 = .ok (.iastore, 1) := by decide +kernel
theorem dX12_clause_246 : decode cX12_clause 246 = .ok (.aload_n 0, 1) := by decide +kernel
theorem dX12_clause_247 : decode cX12_clause 247 = .ok (.invokevirtual 151, 3) := by decide +kernel
theorem dX12_clause_250 : decode cX12_clause 250 = .ok (.aload_n 0, 1) := by decide +kernel
theorem dX12_clause_251 : decode cX12_clause 251 = .ok (.getfield 31, 3) := by decide +kernel
theorem dX12_clause_254 : decode cX12_clause 254 = .ok (.iload_n 1, 1) := by decide +kernel
theorem dX12_clause_255 : decode cX12_clause 255 = .ok (.aload_n 0, 1) := by decide +kernel
theorem dX12_clause_256 : decode cX12_clause 256 = .ok (.getfield 19, 3) := by decide +kernel
theorem dX12_clause_259 : decode cX12_clause 259 = .ok (.aload_n 0, 1) := by decide +kernel
theorem dX12_clause_260 : decode cX12_clause 260 = .ok (.getfield 121, 3) := by decide +kernel
theorem dX12_clause_263 : decode cX12_clause 263 = .ok (.iaload, 1) := by decide +kernel
theorem dX12_clause_264 : decode cX12_clause 264 = .ok (.iastore, 1) := by decide +kernel
theorem dX12_clause_265 : decode cX12_clause 265 = .ok (.aload_n 0, 1) := by decide +kernel
theorem dX12_clause_266 : decode cX12_clause 266 = .ok (.getfield 22, 3) := by decide +kernel
theorem dX12_clause_269 : decode cX12_clause 269 = .ok (.aload_n 0, 1) := by decide +kernel
theorem dX12_clause_270 : decode cX12_clause 270 = .ok (.getfield 121, 3) := by decide +kernel
theorem dX12_clause_273 : decode cX12_clause 273 = .ok (.dup2, 1) := by decide +kernel
theorem dX12_clause_274 : decode cX12_clause 274 = .ok (.iaload, 1) := by decide +kernel
theorem dX12_clause_275 : decode cX12_clause 275 = .ok (.iconst 1, 1) := by decide +kernel
theorem dX12_clause_276 : decode cX12_clause 276 = .ok (.iadd, 1) := by decide +kernel
theorem dX12_clause_277 : decode cX12_clause 277 = .ok (.iastore, 1) := by decide +kernel
theorem dX12_clause_278 : decode cX12_clause 278 = .ok (.return_, 1) := by decide +kernel
theorem dX12_open_0 : decode cX12_open 0 = .ok (.aload_n 0, 1) := by decide +kernel
theorem dX12_open_1 : decode cX12_open 1 = .ok (.iload_n 1, 1) := by decide +kernel
theorem dX12_open_2 : decode cX12_open 2 = .ok (.putfield 121, 3) := by decide +kernel
theorem dX12_open_5 : decode cX12_open 5 = .ok (.aload_n 0, 1) := by decide +kernel
theorem dX12_open_6 : decode cX12_open 6 = .ok (.iconst 0, 1) := by decide +kernel
theorem dX12_open_7 : decode cX12_open 7 = .ok (.putfield 111, 3) := by decide +kernel
theorem dX12_open_10 : decode cX12_open 10 = .ok (.aload_n 0, 1) := by decide +kernel
theorem dX12_open_11 : decode cX12_open 11 = .ok (.iconst (-1), 1) := by decide +kernel
theorem dX12_open_12 : decode cX12_open 12 = .ok (.putfield 118, 3) := by decide +kernel
theorem dX12_open_15 : decode cX12_open 15 = .ok (.aload_n 0, 1) := by decide +kernel
theorem dX12_open_16 : decode cX12_open 16 = .ok (.iconst 0, 1) := by decide +kernel
theorem dX12_open_17 : decode cX12_open 17 = .ok (.putfield 124, 3) := by decide +kernel
theorem dX12_open_20 : decode cX12_open 20 = .ok (.aload_n 0, 1) := by decide +kernel
theorem dX12_open_21 : decode cX12_open 21 = .ok (.getfield 19, 3) := by decide +kernel
theorem dX12_open_24 : decode cX12_open 24 = .ok (.iload_n 1, 1) := by decide +kernel
theorem dX12_open_25 : decode cX12_open 25 = .ok (.iconst 0, 1) := by decide +kernel
theorem dX12_open_26 : decode cX12_open 26 = .ok (.iastore, 1) := by decide +kernel
theorem dX12_open_27 : decode cX12_open 27 = .ok (.aload_n 0, 1) := by decide +kernel
theorem dX12_open_28 : decode cX12_open 28 = .ok (.getfield 22, 3) := by decide +kernel
theorem dX12_open_31 : decode cX12_open 31 = .ok (.iload_n 1, 1) := by decide +kernel
theorem dX12_open_32 : decode cX12_open 32 = .ok (.iconst 0, 1) := by decide +kernel
theorem dX12_open_33 : decode cX12_open 33 = .ok (.iastore, 1) := by decide +kernel
theorem dX12_open_34 : decode cX12_open 34 = .ok (.return_, 1) := by decide +kernel
theorem dX12_atEnd_0 : decode cX12_atEnd 0 = .ok (.aload_n 0, 1) := by decide +kernel
theorem dX12_atEnd_1 : decode cX12_atEnd 1 = .ok (.getfield 118, 3) := by decide +kernel
theorem dX12_atEnd_4 : decode cX12_atEnd 4 = .ok (.iconst (-1), 1) := by decide +kernel
theorem dX12_atEnd_5 : decode cX12_atEnd 5 = .ok (.if_icmp .ne 15, 3) := by decide +kernel
theorem dX12_atEnd_8 : decode cX12_atEnd 8 = .ok (.aload_n 0, 1) := by decide +kernel
theorem dX12_atEnd_9 : decode cX12_atEnd 9 = .ok (.invokevirtual 130, 3) := by decide +kernel
theorem dX12_atEnd_12 : decode cX12_atEnd 12 = .ok (.iconst (-1), 1) := by decide +kernel
theorem dX12_atEnd_13 : decode cX12_atEnd 13 = .ok (.if_icmp .eq 7, 3) := by decide +kernel
theorem dX12_atEnd_16 : decode cX12_atEnd 16 = .ok (.aload_n 0, 1) := by decide +kernel
theorem dX12_atEnd_17 : decode cX12_atEnd 17 = .ok (.invokevirtual 127, 3) := by decide +kernel
theorem dX12_atEnd_20 : decode cX12_atEnd 20 = .ok (.aload_n 0, 1) := by decide +kernel
theorem dX12_atEnd_21 : decode cX12_atEnd 21 = .ok (.getfield 118, 3) := by decide +kernel
theorem dX12_atEnd_24 : decode cX12_atEnd 24 = .ok (.ireturn, 1) := by decide +kernel
theorem dX12_readLaw_0 : decode cX12_readLaw 0 = .ok (.aload_n 0, 1) := by decide +kernel
theorem dX12_readLaw_1 : decode cX12_readLaw 1 = .ok (.iload_n 1, 1) := by decide +kernel
theorem dX12_readLaw_2 : decode cX12_readLaw 2 = .ok (.invokevirtual 182, 3) := by decide +kernel
theorem dX12_readLaw_5 : decode cX12_readLaw 5 = .ok (.aload_n 0, 1) := by decide +kernel
theorem dX12_readLaw_6 : decode cX12_readLaw 6 = .ok (.invokevirtual 185, 3) := by decide +kernel
theorem dX12_readLaw_9 : decode cX12_readLaw 9 = .ok (.aload_n 0, 1) := by decide +kernel
theorem dX12_readLaw_10 : decode cX12_readLaw 10 = .ok (.getfield 118, 3) := by decide +kernel
theorem dX12_readLaw_13 : decode cX12_readLaw 13 = .ok (.iconst (-1), 1) := by decide +kernel
theorem dX12_readLaw_14 : decode cX12_readLaw 14 = .ok (.if_icmp .ne 29, 3) := by decide +kernel
theorem dX12_readLaw_17 : decode cX12_readLaw 17 = .ok (.aload_n 0, 1) := by decide +kernel
theorem dX12_readLaw_18 : decode cX12_readLaw 18 = .ok (.invokevirtual 130, 3) := by decide +kernel
theorem dX12_readLaw_21 : decode cX12_readLaw 21 = .ok (.bipush 59, 2) := by decide +kernel
theorem dX12_readLaw_23 : decode cX12_readLaw 23 = .ok (.if_icmp .ne 20, 3) := by decide +kernel
theorem dX12_readLaw_26 : decode cX12_readLaw 26 = .ok (.aload_n 0, 1) := by decide +kernel
theorem dX12_readLaw_27 : decode cX12_readLaw 27 = .ok (.dup, 1) := by decide +kernel
theorem dX12_readLaw_28 : decode cX12_readLaw 28 = .ok (.getfield 111, 3) := by decide +kernel
theorem dX12_readLaw_31 : decode cX12_readLaw 31 = .ok (.iconst 1, 1) := by decide +kernel
theorem dX12_readLaw_32 : decode cX12_readLaw 32 = .ok (.iadd, 1) := by decide +kernel
theorem dX12_readLaw_33 : decode cX12_readLaw 33 = .ok (.putfield 111, 3) := by decide +kernel
theorem dX12_readLaw_36 : decode cX12_readLaw 36 = .ok (.aload_n 0, 1) := by decide +kernel
theorem dX12_readLaw_37 : decode cX12_readLaw 37 = .ok (.invokevirtual 185, 3) := by decide +kernel
theorem dX12_readLaw_40 : decode cX12_readLaw 40 = .ok (.goto (-31), 3) := by decide +kernel
theorem dX12_readLaw_43 : decode cX12_readLaw 43 = .ok (.aload_n 0, 1) := by decide +kernel
theorem dX12_readLaw_44 : decode cX12_readLaw 44 = .ok (.invokevirtual 188, 3) := by decide +kernel
theorem dX12_readLaw_47 : decode cX12_readLaw 47 = .ok (.ireturn, 1) := by decide +kernel
theorem dX12_bounded_0 : decode cX12_bounded 0 = .ok (.ldc2_w 191, 3) := by decide +kernel
theorem dX12_bounded_3 : decode cX12_bounded 3 = .ok (.ldc2_w 193, 3) := by decide +kernel
theorem dX12_bounded_6 : decode cX12_bounded 6 = .ok (.lload_n 0, 1) := by decide +kernel
theorem dX12_bounded_7 : decode cX12_bounded 7 = .ok (.invokestatic 195, 3) := by decide +kernel
theorem dX12_bounded_10 : decode cX12_bounded 10 = .ok (.invokestatic 201, 3) := by decide +kernel
theorem dX12_bounded_13 : decode cX12_bounded 13 = .ok (.l2i, 1) := by decide +kernel
theorem dX12_bounded_14 : decode cX12_bounded 14 = .ok (.ireturn, 1) := by decide +kernel
theorem dX12_worked_0 : decode cX12_worked 0 = .ok (.iload_n 0, 1) := by decide +kernel
theorem dX12_worked_1 : decode cX12_worked 1 = .ok (.tableswitch 143 2 10 #[51, 58, 65, 72, 89, 101, 113, 143, 125], 51) := by decide +kernel
theorem dX12_worked_52 : decode cX12_worked 52 = .ok (.lload_n 1, 1) := by decide +kernel
theorem dX12_worked_53 : decode cX12_worked 53 = .ok (.lload_n 3, 1) := by decide +kernel
theorem dX12_worked_54 : decode cX12_worked 54 = .ok (.ladd, 1) := by decide +kernel
theorem dX12_worked_55 : decode cX12_worked 55 = .ok (.invokestatic 204, 3) := by decide +kernel
theorem dX12_worked_58 : decode cX12_worked 58 = .ok (.ireturn, 1) := by decide +kernel
theorem dX12_worked_59 : decode cX12_worked 59 = .ok (.lload_n 1, 1) := by decide +kernel
theorem dX12_worked_60 : decode cX12_worked 60 = .ok (.lload_n 3, 1) := by decide +kernel
theorem dX12_worked_61 : decode cX12_worked 61 = .ok (.lsub, 1) := by decide +kernel
theorem dX12_worked_62 : decode cX12_worked 62 = .ok (.invokestatic 204, 3) := by decide +kernel
theorem dX12_worked_65 : decode cX12_worked 65 = .ok (.ireturn, 1) := by decide +kernel
theorem dX12_worked_66 : decode cX12_worked 66 = .ok (.lload_n 1, 1) := by decide +kernel
theorem dX12_worked_67 : decode cX12_worked 67 = .ok (.lload_n 3, 1) := by decide +kernel
theorem dX12_worked_68 : decode cX12_worked 68 = .ok (.lmul, 1) := by decide +kernel
theorem dX12_worked_69 : decode cX12_worked 69 = .ok (.invokestatic 204, 3) := by decide +kernel
theorem dX12_worked_72 : decode cX12_worked 72 = .ok (.ireturn, 1) := by decide +kernel
theorem dX12_worked_73 : decode cX12_worked 73 = .ok (.lload_n 3, 1) := by decide +kernel
theorem dX12_worked_74 : decode cX12_worked 74 = .ok (.lconst 0, 1) := by decide +kernel
theorem dX12_worked_75 : decode cX12_worked 75 = .ok (.lcmp, 1) := by decide +kernel
theorem dX12_worked_76 : decode cX12_worked 76 = .ok (.ifCond .ne 7, 3) := by decide +kernel
theorem dX12_worked_79 : decode cX12_worked 79 = .ok (.iconst 0, 1) := by decide +kernel
theorem dX12_worked_80 : decode cX12_worked 80 = .ok (.goto 9, 3) := by decide +kernel
theorem dX12_worked_83 : decode cX12_worked 83 = .ok (.lload_n 1, 1) := by decide +kernel
theorem dX12_worked_84 : decode cX12_worked 84 = .ok (.lload_n 3, 1) := by decide +kernel
theorem dX12_worked_85 : decode cX12_worked 85 = .ok (.ldiv, 1) := by decide +kernel
theorem dX12_worked_86 : decode cX12_worked 86 = .ok (.invokestatic 204, 3) := by decide +kernel
theorem dX12_worked_89 : decode cX12_worked 89 = .ok (.ireturn, 1) := by decide +kernel
theorem dX12_worked_90 : decode cX12_worked 90 = .ok (.lload_n 1, 1) := by decide +kernel
theorem dX12_worked_91 : decode cX12_worked 91 = .ok (.lload_n 3, 1) := by decide +kernel
theorem dX12_worked_92 : decode cX12_worked 92 = .ok (.lcmp, 1) := by decide +kernel
theorem dX12_worked_93 : decode cX12_worked 93 = .ok (.ifCond .ne 7, 3) := by decide +kernel
theorem dX12_worked_96 : decode cX12_worked 96 = .ok (.iconst 1, 1) := by decide +kernel
theorem dX12_worked_97 : decode cX12_worked 97 = .ok (.goto 4, 3) := by decide +kernel
theorem dX12_worked_100 : decode cX12_worked 100 = .ok (.iconst 0, 1) := by decide +kernel
theorem dX12_worked_101 : decode cX12_worked 101 = .ok (.ireturn, 1) := by decide +kernel
theorem dX12_worked_102 : decode cX12_worked 102 = .ok (.lload_n 1, 1) := by decide +kernel
theorem dX12_worked_103 : decode cX12_worked 103 = .ok (.lload_n 3, 1) := by decide +kernel
theorem dX12_worked_104 : decode cX12_worked 104 = .ok (.lcmp, 1) := by decide +kernel
theorem dX12_worked_105 : decode cX12_worked 105 = .ok (.ifCond .ge 7, 3) := by decide +kernel
theorem dX12_worked_108 : decode cX12_worked 108 = .ok (.iconst 1, 1) := by decide +kernel
theorem dX12_worked_109 : decode cX12_worked 109 = .ok (.goto 4, 3) := by decide +kernel
theorem dX12_worked_112 : decode cX12_worked 112 = .ok (.iconst 0, 1) := by decide +kernel
theorem dX12_worked_113 : decode cX12_worked 113 = .ok (.ireturn, 1) := by decide +kernel
theorem dX12_worked_114 : decode cX12_worked 114 = .ok (.lload_n 1, 1) := by decide +kernel
theorem dX12_worked_115 : decode cX12_worked 115 = .ok (.lload_n 3, 1) := by decide +kernel
theorem dX12_worked_116 : decode cX12_worked 116 = .ok (.lcmp, 1) := by decide +kernel
theorem dX12_worked_117 : decode cX12_worked 117 = .ok (.ifCond .le 7, 3) := by decide +kernel
theorem dX12_worked_120 : decode cX12_worked 120 = .ok (.iconst 1, 1) := by decide +kernel
theorem dX12_worked_121 : decode cX12_worked 121 = .ok (.goto 4, 3) := by decide +kernel
theorem dX12_worked_124 : decode cX12_worked 124 = .ok (.iconst 0, 1) := by decide +kernel
theorem dX12_worked_125 : decode cX12_worked 125 = .ok (.ireturn, 1) := by decide +kernel
theorem dX12_worked_126 : decode cX12_worked 126 = .ok (.lload_n 1, 1) := by decide +kernel
theorem dX12_worked_127 : decode cX12_worked 127 = .ok (.lconst 0, 1) := by decide +kernel
theorem dX12_worked_128 : decode cX12_worked 128 = .ok (.lcmp, 1) := by decide +kernel
theorem dX12_worked_129 : decode cX12_worked 129 = .ok (.ifCond .eq 13, 3) := by decide +kernel
theorem dX12_worked_132 : decode cX12_worked 132 = .ok (.lload_n 3, 1) := by decide +kernel
theorem dX12_worked_133 : decode cX12_worked 133 = .ok (.lconst 0, 1) := by decide +kernel
theorem dX12_worked_134 : decode cX12_worked 134 = .ok (.lcmp, 1) := by decide +kernel
theorem dX12_worked_135 : decode cX12_worked 135 = .ok (.ifCond .eq 7, 3) := by decide +kernel
theorem dX12_worked_138 : decode cX12_worked 138 = .ok (.iconst 1, 1) := by decide +kernel
theorem dX12_worked_139 : decode cX12_worked 139 = .ok (.goto 4, 3) := by decide +kernel
theorem dX12_worked_142 : decode cX12_worked 142 = .ok (.iconst 0, 1) := by decide +kernel
theorem dX12_worked_143 : decode cX12_worked 143 = .ok (.ireturn, 1) := by decide +kernel
theorem dX12_worked_144 : decode cX12_worked 144 = .ok (.lload_n 1, 1) := by decide +kernel
theorem dX12_worked_145 : decode cX12_worked 145 = .ok (.lconst 0, 1) := by decide +kernel
theorem dX12_worked_146 : decode cX12_worked 146 = .ok (.lcmp, 1) := by decide +kernel
theorem dX12_worked_147 : decode cX12_worked 147 = .ok (.ifCond .ne 9, 3) := by decide +kernel
theorem dX12_worked_150 : decode cX12_worked 150 = .ok (.lload_n 3, 1) := by decide +kernel
theorem dX12_worked_151 : decode cX12_worked 151 = .ok (.lconst 0, 1) := by decide +kernel
theorem dX12_worked_152 : decode cX12_worked 152 = .ok (.lcmp, 1) := by decide +kernel
theorem dX12_worked_153 : decode cX12_worked 153 = .ok (.ifCond .eq 7, 3) := by decide +kernel
theorem dX12_worked_156 : decode cX12_worked 156 = .ok (.iconst 1, 1) := by decide +kernel
theorem dX12_worked_157 : decode cX12_worked 157 = .ok (.goto 4, 3) := by decide +kernel
theorem dX12_worked_160 : decode cX12_worked 160 = .ok (.iconst 0, 1) := by decide +kernel
theorem dX12_worked_161 : decode cX12_worked 161 = .ok (.ireturn, 1) := by decide +kernel
theorem dX12_workOut_0 : decode cX12_workOut 0 = .ok (.iconst 0, 1) := by decide +kernel
theorem dX12_workOut_1 : decode cX12_workOut 1 = .ok (.istore 4, 2) := by decide +kernel
theorem dX12_workOut_3 : decode cX12_workOut 3 = .ok (.sipush 260, 3) := by decide +kernel
theorem dX12_workOut_6 : decode cX12_workOut 6 = .ok (.iload_n 1, 1) := by decide +kernel
theorem dX12_workOut_7 : decode cX12_workOut 7 = .ok (.imul, 1) := by decide +kernel
theorem dX12_workOut_8 : decode cX12_workOut 8 = .ok (.iload_n 2, 1) := by decide +kernel
theorem dX12_workOut_9 : decode cX12_workOut 9 = .ok (.iadd, 1) := by decide +kernel
theorem dX12_workOut_10 : decode cX12_workOut 10 = .ok (.istore 5, 2) := by decide +kernel
theorem dX12_workOut_12 : decode cX12_workOut 12 = .ok (.iload 5, 2) := by decide +kernel
theorem dX12_workOut_14 : decode cX12_workOut 14 = .ok (.sipush 260, 3) := by decide +kernel
theorem dX12_workOut_17 : decode cX12_workOut 17 = .ok (.iload_n 1, 1) := by decide +kernel
theorem dX12_workOut_18 : decode cX12_workOut 18 = .ok (.imul, 1) := by decide +kernel
theorem dX12_workOut_19 : decode cX12_workOut 19 = .ok (.iload_n 3, 1) := by decide +kernel
theorem dX12_workOut_20 : decode cX12_workOut 20 = .ok (.iadd, 1) := by decide +kernel
theorem dX12_workOut_21 : decode cX12_workOut 21 = .ok (.if_icmp .ge 150, 3) := by decide +kernel
theorem dX12_workOut_24 : decode cX12_workOut 24 = .ok (.aload_n 0, 1) := by decide +kernel
theorem dX12_workOut_25 : decode cX12_workOut 25 = .ok (.getfield 13, 3) := by decide +kernel
theorem dX12_workOut_28 : decode cX12_workOut 28 = .ok (.iload 5, 2) := by decide +kernel
theorem dX12_workOut_30 : decode cX12_workOut 30 = .ok (.iaload, 1) := by decide +kernel
theorem dX12_workOut_31 : decode cX12_workOut 31 = .ok (.ifCond .eq 14, 3) := by decide +kernel
theorem dX12_workOut_34 : decode cX12_workOut 34 = .ok (.aload_n 0, 1) := by decide +kernel
theorem dX12_workOut_35 : decode cX12_workOut 35 = .ok (.getfield 13, 3) := by decide +kernel
theorem dX12_workOut_38 : decode cX12_workOut 38 = .ok (.iload 5, 2) := by decide +kernel
theorem dX12_workOut_40 : decode cX12_workOut 40 = .ok (.iaload, 1) := by decide +kernel
theorem dX12_workOut_41 : decode cX12_workOut 41 = .ok (.iconst 1, 1) := by decide +kernel
theorem dX12_workOut_42 : decode cX12_workOut 42 = .ok (.if_icmp .ne 48, 3) := by decide +kernel
theorem dX12_workOut_45 : decode cX12_workOut 45 = .ok (.aload_n 0, 1) := by decide +kernel
theorem dX12_workOut_46 : decode cX12_workOut 46 = .ok (.getfield 37, 3) := by decide +kernel
theorem dX12_workOut_49 : decode cX12_workOut 49 = .ok (.iload 4, 2) := by decide +kernel
theorem dX12_workOut_51 : decode cX12_workOut 51 = .ok (.aload_n 0, 1) := by decide +kernel
theorem dX12_workOut_52 : decode cX12_workOut 52 = .ok (.getfield 13, 3) := by decide +kernel
theorem dX12_workOut_55 : decode cX12_workOut 55 = .ok (.iload 5, 2) := by decide +kernel
theorem dX12_workOut_57 : decode cX12_workOut 57 = .ok (.iaload, 1) := by decide +kernel
theorem dX12_workOut_58 : decode cX12_workOut 58 = .ok (.ifCond .ne 13, 3) := by decide +kernel
theorem dX12_workOut_61 : decode cX12_workOut 61 = .ok (.aload_n 0, 1) := by decide +kernel
theorem dX12_workOut_62 : decode cX12_workOut 62 = .ok (.getfield 16, 3) := by decide +kernel
theorem dX12_workOut_65 : decode cX12_workOut 65 = .ok (.iload 5, 2) := by decide +kernel
theorem dX12_workOut_67 : decode cX12_workOut 67 = .ok (.iaload, 1) := by decide +kernel
theorem dX12_workOut_68 : decode cX12_workOut 68 = .ok (.goto 15, 3) := by decide +kernel
theorem dX12_workOut_71 : decode cX12_workOut 71 = .ok (.aload_n 0, 1) := by decide +kernel
theorem dX12_workOut_72 : decode cX12_workOut 72 = .ok (.getfield 34, 3) := by decide +kernel
theorem dX12_workOut_75 : decode cX12_workOut 75 = .ok (.aload_n 0, 1) := by decide +kernel
theorem dX12_workOut_76 : decode cX12_workOut 76 = .ok (.getfield 16, 3) := by decide +kernel
theorem dX12_workOut_79 : decode cX12_workOut 79 = .ok (.iload 5, 2) := by decide +kernel
theorem dX12_workOut_81 : decode cX12_workOut 81 = .ok (.iaload, 1) := by decide +kernel
theorem dX12_workOut_82 : decode cX12_workOut 82 = .ok (.iaload, 1) := by decide +kernel
theorem dX12_workOut_83 : decode cX12_workOut 83 = .ok (.iastore, 1) := by decide +kernel
theorem dX12_workOut_84 : decode cX12_workOut 84 = .ok (.iinc 4 1, 3) := by decide +kernel
theorem dX12_workOut_87 : decode cX12_workOut 87 = .ok (.goto 78, 3) := by decide +kernel
theorem dX12_workOut_90 : decode cX12_workOut 90 = .ok (.aload_n 0, 1) := by decide +kernel
theorem dX12_workOut_91 : decode cX12_workOut 91 = .ok (.getfield 13, 3) := by decide +kernel
theorem dX12_workOut_94 : decode cX12_workOut 94 = .ok (.iload 5, 2) := by decide +kernel
theorem dX12_workOut_96 : decode cX12_workOut 96 = .ok (.iaload, 1) := by decide +kernel
theorem dX12_workOut_97 : decode cX12_workOut 97 = .ok (.bipush 9, 2) := by decide +kernel
theorem dX12_workOut_99 : decode cX12_workOut 99 = .ok (.if_icmp .ne 26, 3) := by decide +kernel
theorem dX12_workOut_102 : decode cX12_workOut 102 = .ok (.aload_n 0, 1) := by decide +kernel
theorem dX12_workOut_103 : decode cX12_workOut 103 = .ok (.getfield 37, 3) := by decide +kernel
theorem dX12_workOut_106 : decode cX12_workOut 106 = .ok (.iload 4, 2) := by decide +kernel
theorem dX12_workOut_108 : decode cX12_workOut 108 = .ok (.iconst 1, 1) := by decide +kernel
theorem dX12_workOut_109 : decode cX12_workOut 109 = .ok (.isub, 1) := by decide +kernel
theorem dX12_workOut_110 : decode cX12_workOut 110 = .ok (.iconst 1, 1) := by decide +kernel
theorem dX12_workOut_111 : decode cX12_workOut 111 = .ok (.aload_n 0, 1) := by decide +kernel
theorem dX12_workOut_112 : decode cX12_workOut 112 = .ok (.getfield 37, 3) := by decide +kernel
theorem dX12_workOut_115 : decode cX12_workOut 115 = .ok (.iload 4, 2) := by decide +kernel
theorem dX12_workOut_117 : decode cX12_workOut 117 = .ok (.iconst 1, 1) := by decide +kernel
theorem dX12_workOut_118 : decode cX12_workOut 118 = .ok (.isub, 1) := by decide +kernel
theorem dX12_workOut_119 : decode cX12_workOut 119 = .ok (.iaload, 1) := by decide +kernel
theorem dX12_workOut_120 : decode cX12_workOut 120 = .ok (.isub, 1) := by decide +kernel
theorem dX12_workOut_121 : decode cX12_workOut 121 = .ok (.iastore, 1) := by decide +kernel
theorem dX12_workOut_122 : decode cX12_workOut 122 = .ok (.goto 43, 3) := by decide +kernel
theorem dX12_workOut_125 : decode cX12_workOut 125 = .ok (.iinc 4 (-1), 3) := by decide +kernel
theorem dX12_workOut_128 : decode cX12_workOut 128 = .ok (.aload_n 0, 1) := by decide +kernel
theorem dX12_workOut_129 : decode cX12_workOut 129 = .ok (.getfield 37, 3) := by decide +kernel
theorem dX12_workOut_132 : decode cX12_workOut 132 = .ok (.iload 4, 2) := by decide +kernel
theorem dX12_workOut_134 : decode cX12_workOut 134 = .ok (.iconst 1, 1) := by decide +kernel
theorem dX12_workOut_135 : decode cX12_workOut 135 = .ok (.isub, 1) := by decide +kernel
theorem dX12_workOut_136 : decode cX12_workOut 136 = .ok (.aload_n 0, 1) := by decide +kernel
theorem dX12_workOut_137 : decode cX12_workOut 137 = .ok (.getfield 13, 3) := by decide +kernel
theorem dX12_workOut_140 : decode cX12_workOut 140 = .ok (.iload 5, 2) := by decide +kernel
theorem dX12_workOut_142 : decode cX12_workOut 142 = .ok (.iaload, 1) := by decide +kernel
theorem dX12_workOut_143 : decode cX12_workOut 143 = .ok (.aload_n 0, 1) := by decide +kernel
theorem dX12_workOut_144 : decode cX12_workOut 144 = .ok (.getfield 37, 3) := by decide +kernel
theorem dX12_workOut_147 : decode cX12_workOut 147 = .ok (.iload 4, 2) := by decide +kernel
theorem dX12_workOut_149 : decode cX12_workOut 149 = .ok (.iconst 1, 1) := by decide +kernel
theorem dX12_workOut_150 : decode cX12_workOut 150 = .ok (.isub, 1) := by decide +kernel
theorem dX12_workOut_151 : decode cX12_workOut 151 = .ok (.iaload, 1) := by decide +kernel
theorem dX12_workOut_152 : decode cX12_workOut 152 = .ok (.i2l, 1) := by decide +kernel
theorem dX12_workOut_153 : decode cX12_workOut 153 = .ok (.aload_n 0, 1) := by decide +kernel
theorem dX12_workOut_154 : decode cX12_workOut 154 = .ok (.getfield 37, 3) := by decide +kernel
theorem dX12_workOut_157 : decode cX12_workOut 157 = .ok (.iload 4, 2) := by decide +kernel
theorem dX12_workOut_159 : decode cX12_workOut 159 = .ok (.iaload, 1) := by decide +kernel
theorem dX12_workOut_160 : decode cX12_workOut 160 = .ok (.i2l, 1) := by decide +kernel
theorem dX12_workOut_161 : decode cX12_workOut 161 = .ok (.invokestatic 208, 3) := by decide +kernel
theorem dX12_workOut_164 : decode cX12_workOut 164 = .ok (.iastore, 1) := by decide +kernel
theorem dX12_workOut_165 : decode cX12_workOut 165 = .ok (.iinc 5 1, 3) := by decide +kernel
theorem dX12_workOut_168 : decode cX12_workOut 168 = .ok (.goto (-156), 3) := by decide +kernel
theorem dX12_workOut_171 : decode cX12_workOut 171 = .ok (.aload_n 0, 1) := by decide +kernel
theorem dX12_workOut_172 : decode cX12_workOut 172 = .ok (.getfield 37, 3) := by decide +kernel
theorem dX12_workOut_175 : decode cX12_workOut 175 = .ok (.iconst 0, 1) := by decide +kernel
theorem dX12_workOut_176 : decode cX12_workOut 176 = .ok (.iaload, 1) := by decide +kernel
theorem dX12_workOut_177 : decode cX12_workOut 177 = .ok (.ireturn, 1) := by decide +kernel
theorem dX12_worthOf_0 : decode cX12_worthOf 0 = .ok (.bipush 90, 2) := by decide +kernel
theorem dX12_worthOf_2 : decode cX12_worthOf 2 = .ok (.iload_n 1, 1) := by decide +kernel
theorem dX12_worthOf_3 : decode cX12_worthOf 3 = .ok (.imul, 1) := by decide +kernel
theorem dX12_worthOf_4 : decode cX12_worthOf 4 = .ok (.istore_n 2, 1) := by decide +kernel
theorem dX12_worthOf_5 : decode cX12_worthOf 5 = .ok (.iload_n 2, 1) := by decide +kernel
theorem dX12_worthOf_6 : decode cX12_worthOf 6 = .ok (.bipush 90, 2) := by decide +kernel
theorem dX12_worthOf_8 : decode cX12_worthOf 8 = .ok (.iload_n 1, 1) := by decide +kernel
theorem dX12_worthOf_9 : decode cX12_worthOf 9 = .ok (.imul, 1) := by decide +kernel
theorem dX12_worthOf_10 : decode cX12_worthOf 10 = .ok (.aload_n 0, 1) := by decide +kernel
theorem dX12_worthOf_11 : decode cX12_worthOf 11 = .ok (.getfield 22, 3) := by decide +kernel
theorem dX12_worthOf_14 : decode cX12_worthOf 14 = .ok (.iload_n 1, 1) := by decide +kernel
theorem dX12_worthOf_15 : decode cX12_worthOf 15 = .ok (.iaload, 1) := by decide +kernel
theorem dX12_worthOf_16 : decode cX12_worthOf 16 = .ok (.iadd, 1) := by decide +kernel
theorem dX12_worthOf_17 : decode cX12_worthOf 17 = .ok (.if_icmp .ge 62, 3) := by decide +kernel
theorem dX12_worthOf_20 : decode cX12_worthOf 20 = .ok (.aload_n 0, 1) := by decide +kernel
theorem dX12_worthOf_21 : decode cX12_worthOf 21 = .ok (.getfield 25, 3) := by decide +kernel
theorem dX12_worthOf_24 : decode cX12_worthOf 24 = .ok (.iload_n 2, 1) := by decide +kernel
theorem dX12_worthOf_25 : decode cX12_worthOf 25 = .ok (.iaload, 1) := by decide +kernel
theorem dX12_worthOf_26 : decode cX12_worthOf 26 = .ok (.aload_n 0, 1) := by decide +kernel
theorem dX12_worthOf_27 : decode cX12_worthOf 27 = .ok (.getfield 28, 3) := by decide +kernel
theorem dX12_worthOf_30 : decode cX12_worthOf 30 = .ok (.iload_n 2, 1) := by decide +kernel
theorem dX12_worthOf_31 : decode cX12_worthOf 31 = .ok (.iaload, 1) := by decide +kernel
theorem dX12_worthOf_32 : decode cX12_worthOf 32 = .ok (.if_icmp .eq 23, 3) := by decide +kernel
theorem dX12_worthOf_35 : decode cX12_worthOf 35 = .ok (.aload_n 0, 1) := by decide +kernel
theorem dX12_worthOf_36 : decode cX12_worthOf 36 = .ok (.iload_n 1, 1) := by decide +kernel
theorem dX12_worthOf_37 : decode cX12_worthOf 37 = .ok (.aload_n 0, 1) := by decide +kernel
theorem dX12_worthOf_38 : decode cX12_worthOf 38 = .ok (.getfield 25, 3) := by decide +kernel
theorem dX12_worthOf_41 : decode cX12_worthOf 41 = .ok (.iload_n 2, 1) := by decide +kernel
theorem dX12_worthOf_42 : decode cX12_worthOf 42 = .ok (.iaload, 1) := by decide +kernel
theorem dX12_worthOf_43 : decode cX12_worthOf 43 = .ok (.aload_n 0, 1) := by decide +kernel
theorem dX12_worthOf_44 : decode cX12_worthOf 44 = .ok (.getfield 28, 3) := by decide +kernel
theorem dX12_worthOf_47 : decode cX12_worthOf 47 = .ok (.iload_n 2, 1) := by decide +kernel
theorem dX12_worthOf_48 : decode cX12_worthOf 48 = .ok (.iaload, 1) := by decide +kernel
theorem dX12_worthOf_49 : decode cX12_worthOf 49 = .ok (.invokevirtual 212, 3) := by decide +kernel
theorem dX12_worthOf_52 : decode cX12_worthOf 52 = .ok (.ifCond .eq 21, 3) := by decide +kernel
theorem dX12_worthOf_55 : decode cX12_worthOf 55 = .ok (.aload_n 0, 1) := by decide +kernel
theorem dX12_worthOf_56 : decode cX12_worthOf 56 = .ok (.iload_n 1, 1) := by decide +kernel
theorem dX12_worthOf_57 : decode cX12_worthOf 57 = .ok (.aload_n 0, 1) := by decide +kernel
theorem dX12_worthOf_58 : decode cX12_worthOf 58 = .ok (.getfield 28, 3) := by decide +kernel
theorem dX12_worthOf_61 : decode cX12_worthOf 61 = .ok (.iload_n 2, 1) := by decide +kernel
theorem dX12_worthOf_62 : decode cX12_worthOf 62 = .ok (.iaload, 1) := by decide +kernel
theorem dX12_worthOf_63 : decode cX12_worthOf 63 = .ok (.aload_n 0, 1) := by decide +kernel
theorem dX12_worthOf_64 : decode cX12_worthOf 64 = .ok (.getfield 31, 3) := by decide +kernel
theorem dX12_worthOf_67 : decode cX12_worthOf 67 = .ok (.iload_n 2, 1) := by decide +kernel
theorem dX12_worthOf_68 : decode cX12_worthOf 68 = .ok (.iaload, 1) := by decide +kernel
theorem dX12_worthOf_69 : decode cX12_worthOf 69 = .ok (.invokevirtual 212, 3) := by decide +kernel
theorem dX12_worthOf_72 : decode cX12_worthOf 72 = .ok (.ireturn, 1) := by decide +kernel
theorem dX12_worthOf_73 : decode cX12_worthOf 73 = .ok (.iinc 2 1, 3) := by decide +kernel
theorem dX12_worthOf_76 : decode cX12_worthOf 76 = .ok (.goto (-71), 3) := by decide +kernel
theorem dX12_worthOf_79 : decode cX12_worthOf 79 = .ok (.iconst 0, 1) := by decide +kernel
theorem dX12_worthOf_80 : decode cX12_worthOf 80 = .ok (.ireturn, 1) := by decide +kernel
theorem dX12_turnOf_0 : decode cX12_turnOf 0 = .ok (.iload_n 0, 1) := by decide +kernel
theorem dX12_turnOf_1 : decode cX12_turnOf 1 = .ok (.bipush 43, 2) := by decide +kernel
theorem dX12_turnOf_3 : decode cX12_turnOf 3 = .ok (.if_icmp .ne 7, 3) := by decide +kernel
theorem dX12_turnOf_6 : decode cX12_turnOf 6 = .ok (.iconst 0, 1) := by decide +kernel
theorem dX12_turnOf_7 : decode cX12_turnOf 7 = .ok (.goto 34, 3) := by decide +kernel
theorem dX12_turnOf_10 : decode cX12_turnOf 10 = .ok (.iload_n 0, 1) := by decide +kernel
theorem dX12_turnOf_11 : decode cX12_turnOf 11 = .ok (.bipush 105, 2) := by decide +kernel
theorem dX12_turnOf_13 : decode cX12_turnOf 13 = .ok (.if_icmp .ne 7, 3) := by decide +kernel
theorem dX12_turnOf_16 : decode cX12_turnOf 16 = .ok (.iconst 1, 1) := by decide +kernel
theorem dX12_turnOf_17 : decode cX12_turnOf 17 = .ok (.goto 24, 3) := by decide +kernel
theorem dX12_turnOf_20 : decode cX12_turnOf 20 = .ok (.iload_n 0, 1) := by decide +kernel
theorem dX12_turnOf_21 : decode cX12_turnOf 21 = .ok (.bipush 45, 2) := by decide +kernel
theorem dX12_turnOf_23 : decode cX12_turnOf 23 = .ok (.if_icmp .ne 7, 3) := by decide +kernel
theorem dX12_turnOf_26 : decode cX12_turnOf 26 = .ok (.iconst 2, 1) := by decide +kernel
theorem dX12_turnOf_27 : decode cX12_turnOf 27 = .ok (.goto 14, 3) := by decide +kernel
theorem dX12_turnOf_30 : decode cX12_turnOf 30 = .ok (.iload_n 0, 1) := by decide +kernel
theorem dX12_turnOf_31 : decode cX12_turnOf 31 = .ok (.bipush 106, 2) := by decide +kernel
theorem dX12_turnOf_33 : decode cX12_turnOf 33 = .ok (.if_icmp .ne 7, 3) := by decide +kernel
theorem dX12_turnOf_36 : decode cX12_turnOf 36 = .ok (.iconst 3, 1) := by decide +kernel
theorem dX12_turnOf_37 : decode cX12_turnOf 37 = .ok (.goto 4, 3) := by decide +kernel
theorem dX12_turnOf_40 : decode cX12_turnOf 40 = .ok (.iconst (-1), 1) := by decide +kernel
theorem dX12_turnOf_41 : decode cX12_turnOf 41 = .ok (.ireturn, 1) := by decide +kernel
theorem dX12_readCode_0 : decode cX12_readCode 0 = .ok (.aload_n 0, 1) := by decide +kernel
theorem dX12_readCode_1 : decode cX12_readCode 1 = .ok (.iconst 0, 1) := by decide +kernel
theorem dX12_readCode_2 : decode cX12_readCode 2 = .ok (.putfield 111, 3) := by decide +kernel
theorem dX12_readCode_5 : decode cX12_readCode 5 = .ok (.aload_n 0, 1) := by decide +kernel
theorem dX12_readCode_6 : decode cX12_readCode 6 = .ok (.iconst (-1), 1) := by decide +kernel
theorem dX12_readCode_7 : decode cX12_readCode 7 = .ok (.putfield 118, 3) := by decide +kernel
theorem dX12_readCode_10 : decode cX12_readCode 10 = .ok (.aload_n 0, 1) := by decide +kernel
theorem dX12_readCode_11 : decode cX12_readCode 11 = .ok (.getfield 43, 3) := by decide +kernel
theorem dX12_readCode_14 : decode cX12_readCode 14 = .ok (.iload_n 1, 1) := by decide +kernel
theorem dX12_readCode_15 : decode cX12_readCode 15 = .ok (.iconst 0, 1) := by decide +kernel
theorem dX12_readCode_16 : decode cX12_readCode 16 = .ok (.iastore, 1) := by decide +kernel
theorem dX12_readCode_17 : decode cX12_readCode 17 = .ok (.aload_n 0, 1) := by decide +kernel
theorem dX12_readCode_18 : decode cX12_readCode 18 = .ok (.invokevirtual 130, 3) := by decide +kernel
theorem dX12_readCode_21 : decode cX12_readCode 21 = .ok (.invokestatic 216, 3) := by decide +kernel
theorem dX12_readCode_24 : decode cX12_readCode 24 = .ok (.iconst (-1), 1) := by decide +kernel
theorem dX12_readCode_25 : decode cX12_readCode 25 = .ok (.if_icmp .ne 7, 3) := by decide +kernel
theorem dX12_readCode_28 : decode cX12_readCode 28 = .ok (.aload_n 0, 1) := by decide +kernel
theorem dX12_readCode_29 : decode cX12_readCode 29 = .ok (.invokevirtual 127, 3) := by decide +kernel
theorem dX12_readCode_32 : decode cX12_readCode 32 = .ok (.aload_n 0, 1) := by decide +kernel
theorem dX12_readCode_33 : decode cX12_readCode 33 = .ok (.getfield 118, 3) := by decide +kernel
theorem dX12_readCode_36 : decode cX12_readCode 36 = .ok (.iconst (-1), 1) := by decide +kernel
theorem dX12_readCode_37 : decode cX12_readCode 37 = .ok (.if_icmp .ne 155, 3) := by decide +kernel
theorem dX12_readCode_40 : decode cX12_readCode 40 = .ok (.aload_n 0, 1) := by decide +kernel
theorem dX12_readCode_41 : decode cX12_readCode 41 = .ok (.invokevirtual 130, 3) := by decide +kernel
theorem dX12_readCode_44 : decode cX12_readCode 44 = .ok (.invokestatic 216, 3) := by decide +kernel
theorem dX12_readCode_47 : decode cX12_readCode 47 = .ok (.iconst (-1), 1) := by decide +kernel
theorem dX12_readCode_48 : decode cX12_readCode 48 = .ok (.if_icmp .eq 144, 3) := by decide +kernel
theorem dX12_readCode_51 : decode cX12_readCode 51 = .ok (.aload_n 0, 1) := by decide +kernel
theorem dX12_readCode_52 : decode cX12_readCode 52 = .ok (.invokevirtual 114, 3) := by decide +kernel
theorem dX12_readCode_55 : decode cX12_readCode 55 = .ok (.invokestatic 216, 3) := by decide +kernel
theorem dX12_readCode_58 : decode cX12_readCode 58 = .ok (.istore_n 2, 1) := by decide +kernel
theorem dX12_readCode_59 : decode cX12_readCode 59 = .ok (.aload_n 0, 1) := by decide +kernel
theorem dX12_readCode_60 : decode cX12_readCode 60 = .ok (.getfield 43, 3) := by decide +kernel
theorem dX12_readCode_63 : decode cX12_readCode 63 = .ok (.iload_n 1, 1) := by decide +kernel
theorem dX12_readCode_64 : decode cX12_readCode 64 = .ok (.iaload, 1) := by decide +kernel
theorem dX12_readCode_65 : decode cX12_readCode 65 = .ok (.bipush 24, 2) := by decide +kernel
theorem dX12_readCode_67 : decode cX12_readCode 67 = .ok (.if_icmp .ne 12, 3) := by decide +kernel
theorem dX12_readCode_70 : decode cX12_readCode 70 = .ok (.aload_n 0, 1) := by decide +kernel
theorem dX12_readCode_71 : decode cX12_readCode 71 = .ok (.invokevirtual 127, 3) := by decide +kernel
theorem dX12_readCode_74 : decode cX12_readCode 74 = .ok (.aload_n 0, 1) := by decide +kernel
theorem dX12_readCode_75 : decode cX12_readCode 75 = .ok (.getfield 118, 3) := by decide +kernel
theorem dX12_readCode_78 : decode cX12_readCode 78 = .ok (.ireturn, 1) := by decide +kernel
theorem dX12_readCode_79 : decode cX12_readCode 79 = .ok (.aload_n 0, 1) := by decide +kernel
theorem dX12_readCode_80 : decode cX12_readCode 80 = .ok (.dup, 1) := by decide +kernel
theorem dX12_readCode_81 : decode cX12_readCode 81 = .ok (.getfield 111, 3) := by decide +kernel
theorem dX12_readCode_84 : decode cX12_readCode 84 = .ok (.iconst 1, 1) := by decide +kernel
theorem dX12_readCode_85 : decode cX12_readCode 85 = .ok (.iadd, 1) := by decide +kernel
theorem dX12_readCode_86 : decode cX12_readCode 86 = .ok (.putfield 111, 3) := by decide +kernel
theorem dX12_readCode_89 : decode cX12_readCode 89 = .ok (.iconst 1, 1) := by decide +kernel
theorem dX12_readCode_90 : decode cX12_readCode 90 = .ok (.istore_n 3, 1) := by decide +kernel
theorem dX12_readCode_91 : decode cX12_readCode 91 = .ok (.aload_n 0, 1) := by decide +kernel
theorem dX12_readCode_92 : decode cX12_readCode 92 = .ok (.invokevirtual 130, 3) := by decide +kernel
theorem dX12_readCode_95 : decode cX12_readCode 95 = .ok (.bipush 49, 2) := by decide +kernel
theorem dX12_readCode_97 : decode cX12_readCode 97 = .ok (.isub, 1) := by decide +kernel
theorem dX12_readCode_98 : decode cX12_readCode 98 = .ok (.iconst 0, 1) := by decide +kernel
theorem dX12_readCode_99 : decode cX12_readCode 99 = .ok (.bipush 8, 2) := by decide +kernel
theorem dX12_readCode_101 : decode cX12_readCode 101 = .ok (.invokestatic 219, 3) := by decide +kernel
theorem dX12_readCode_104 : decode cX12_readCode 104 = .ok (.ifCond .eq 43, 3) := by decide +kernel
theorem dX12_readCode_107 : decode cX12_readCode 107 = .ok (.aload_n 0, 1) := by decide +kernel
theorem dX12_readCode_108 : decode cX12_readCode 108 = .ok (.invokevirtual 114, 3) := by decide +kernel
theorem dX12_readCode_111 : decode cX12_readCode 111 = .ok (.bipush 48, 2) := by decide +kernel
theorem dX12_readCode_113 : decode cX12_readCode 113 = .ok (.isub, 1) := by decide +kernel
theorem dX12_readCode_114 : decode cX12_readCode 114 = .ok (.istore_n 3, 1) := by decide +kernel
theorem dX12_readCode_115 : decode cX12_readCode 115 = .ok (.aload_n 0, 1) := by decide +kernel
theorem dX12_readCode_116 : decode cX12_readCode 116 = .ok (.getfield 43, 3) := by decide +kernel
theorem dX12_readCode_119 : decode cX12_readCode 119 = .ok (.iload_n 1, 1) := by decide +kernel
theorem dX12_readCode_120 : decode cX12_readCode 120 = .ok (.iaload, 1) := by decide +kernel
theorem dX12_readCode_121 : decode cX12_readCode 121 = .ok (.iload_n 3, 1) := by decide +kernel
theorem dX12_readCode_122 : decode cX12_readCode 122 = .ok (.iadd, 1) := by decide +kernel
theorem dX12_readCode_123 : decode cX12_readCode 123 = .ok (.bipush 24, 2) := by decide +kernel
theorem dX12_readCode_125 : decode cX12_readCode 125 = .ok (.if_icmp .le 12, 3) := by decide +kernel
theorem dX12_readCode_128 : decode cX12_readCode 128 = .ok (.aload_n 0, 1) := by decide +kernel
theorem dX12_readCode_129 : decode cX12_readCode 129 = .ok (.invokevirtual 127, 3) := by decide +kernel
theorem dX12_readCode_132 : decode cX12_readCode 132 = .ok (.aload_n 0, 1) := by decide +kernel
theorem dX12_readCode_133 : decode cX12_readCode 133 = .ok (.getfield 118, 3) := by decide +kernel
theorem dX12_readCode_136 : decode cX12_readCode 136 = .ok (.ireturn, 1) := by decide +kernel
theorem dX12_readCode_137 : decode cX12_readCode 137 = .ok (.aload_n 0, 1) := by decide +kernel
theorem dX12_readCode_138 : decode cX12_readCode 138 = .ok (.dup, 1) := by decide +kernel
theorem dX12_readCode_139 : decode cX12_readCode 139 = .ok (.getfield 111, 3) := by decide +kernel
theorem dX12_readCode_142 : decode cX12_readCode 142 = .ok (.iconst 1, 1) := by decide +kernel
theorem dX12_readCode_143 : decode cX12_readCode 143 = .ok (.iadd, 1) := by decide +kernel
theorem dX12_readCode_144 : decode cX12_readCode 144 = .ok (.putfield 111, 3) := by decide +kernel
theorem dX12_readCode_147 : decode cX12_readCode 147 = .ok (.iconst 0, 1) := by decide +kernel
theorem dX12_readCode_148 : decode cX12_readCode 148 = .ok (.istore 4, 2) := by decide +kernel
theorem dX12_readCode_150 : decode cX12_readCode 150 = .ok (.iload 4, 2) := by decide +kernel
theorem dX12_readCode_152 : decode cX12_readCode 152 = .ok (.iload_n 3, 1) := by decide +kernel
theorem dX12_readCode_153 : decode cX12_readCode 153 = .ok (.if_icmp .ge 36, 3) := by decide +kernel
theorem dX12_readCode_156 : decode cX12_readCode 156 = .ok (.aload_n 0, 1) := by decide +kernel
theorem dX12_readCode_157 : decode cX12_readCode 157 = .ok (.getfield 40, 3) := by decide +kernel
theorem dX12_readCode_160 : decode cX12_readCode 160 = .ok (.bipush 24, 2) := by decide +kernel
theorem dX12_readCode_162 : decode cX12_readCode 162 = .ok (.iload_n 1, 1) := by decide +kernel
theorem dX12_readCode_163 : decode cX12_readCode 163 = .ok (.imul, 1) := by decide +kernel
theorem dX12_readCode_164 : decode cX12_readCode 164 = .ok (.aload_n 0, 1) := by decide +kernel
theorem dX12_readCode_165 : decode cX12_readCode 165 = .ok (.getfield 43, 3) := by decide +kernel
theorem dX12_readCode_168 : decode cX12_readCode 168 = .ok (.iload_n 1, 1) := by decide +kernel
theorem dX12_readCode_169 : decode cX12_readCode 169 = .ok (.iaload, 1) := by decide +kernel
theorem dX12_readCode_170 : decode cX12_readCode 170 = .ok (.iadd, 1) := by decide +kernel
theorem dX12_readCode_171 : decode cX12_readCode 171 = .ok (.iload_n 2, 1) := by decide +kernel
theorem dX12_readCode_172 : decode cX12_readCode 172 = .ok (.iastore, 1) := by decide +kernel
theorem dX12_readCode_173 : decode cX12_readCode 173 = .ok (.aload_n 0, 1) := by decide +kernel
theorem dX12_readCode_174 : decode cX12_readCode 174 = .ok (.getfield 43, 3) := by decide +kernel
theorem dX12_readCode_177 : decode cX12_readCode 177 = .ok (.iload_n 1, 1) := by decide +kernel
theorem dX12_readCode_178 : decode cX12_readCode 178 = .ok (.dup2, 1) := by decide +kernel
theorem dX12_readCode_179 : decode cX12_readCode 179 = .ok (.iaload, 1) := by decide +kernel
theorem dX12_readCode_180 : decode cX12_readCode 180 = .ok (.iconst 1, 1) := by decide +kernel
theorem dX12_readCode_181 : decode cX12_readCode 181 = .ok (.iadd, 1) := by decide +kernel
theorem dX12_readCode_182 : decode cX12_readCode 182 = .ok (.iastore, 1) := by decide +kernel
theorem dX12_readCode_183 : decode cX12_readCode 183 = .ok (.iinc 4 1, 3) := by decide +kernel
theorem dX12_readCode_186 : decode cX12_readCode 186 = .ok (.goto (-36), 3) := by decide +kernel
theorem dX12_readCode_189 : decode cX12_readCode 189 = .ok (.goto (-157), 3) := by decide +kernel
theorem dX12_readCode_192 : decode cX12_readCode 192 = .ok (.aload_n 0, 1) := by decide +kernel
theorem dX12_readCode_193 : decode cX12_readCode 193 = .ok (.invokevirtual 188, 3) := by decide +kernel
theorem dX12_readCode_196 : decode cX12_readCode 196 = .ok (.ireturn, 1) := by decide +kernel
theorem dX12_readRests_0 : decode cX12_readRests 0 = .ok (.aload_n 0, 1) := by decide +kernel
theorem dX12_readRests_1 : decode cX12_readRests 1 = .ok (.iconst 0, 1) := by decide +kernel
theorem dX12_readRests_2 : decode cX12_readRests 2 = .ok (.putfield 111, 3) := by decide +kernel
theorem dX12_readRests_5 : decode cX12_readRests 5 = .ok (.aload_n 0, 1) := by decide +kernel
theorem dX12_readRests_6 : decode cX12_readRests 6 = .ok (.iconst (-1), 1) := by decide +kernel
theorem dX12_readRests_7 : decode cX12_readRests 7 = .ok (.putfield 118, 3) := by decide +kernel
theorem dX12_readRests_10 : decode cX12_readRests 10 = .ok (.aload_n 0, 1) := by decide +kernel
theorem dX12_readRests_11 : decode cX12_readRests 11 = .ok (.getfield 49, 3) := by decide +kernel
theorem dX12_readRests_14 : decode cX12_readRests 14 = .ok (.iload_n 1, 1) := by decide +kernel
theorem dX12_readRests_15 : decode cX12_readRests 15 = .ok (.iconst 0, 1) := by decide +kernel
theorem dX12_readRests_16 : decode cX12_readRests 16 = .ok (.iastore, 1) := by decide +kernel
theorem dX12_readRests_17 : decode cX12_readRests 17 = .ok (.iconst 1, 1) := by decide +kernel
theorem dX12_readRests_18 : decode cX12_readRests 18 = .ok (.istore_n 2, 1) := by decide +kernel
theorem dX12_readRests_19 : decode cX12_readRests 19 = .ok (.iload_n 2, 1) := by decide +kernel
theorem dX12_readRests_20 : decode cX12_readRests 20 = .ok (.ifCond .eq 96, 3) := by decide +kernel
theorem dX12_readRests_23 : decode cX12_readRests 23 = .ok (.aload_n 0, 1) := by decide +kernel
theorem dX12_readRests_24 : decode cX12_readRests 24 = .ok (.getfield 118, 3) := by decide +kernel
theorem dX12_readRests_27 : decode cX12_readRests 27 = .ok (.iconst (-1), 1) := by decide +kernel
theorem dX12_readRests_28 : decode cX12_readRests 28 = .ok (.if_icmp .ne 88, 3) := by decide +kernel
theorem dX12_readRests_31 : decode cX12_readRests 31 = .ok (.aload_n 0, 1) := by decide +kernel
theorem dX12_readRests_32 : decode cX12_readRests 32 = .ok (.getfield 46, 3) := by decide +kernel
theorem dX12_readRests_35 : decode cX12_readRests 35 = .ok (.bipush 8, 2) := by decide +kernel
theorem dX12_readRests_37 : decode cX12_readRests 37 = .ok (.iload_n 1, 1) := by decide +kernel
theorem dX12_readRests_38 : decode cX12_readRests 38 = .ok (.imul, 1) := by decide +kernel
theorem dX12_readRests_39 : decode cX12_readRests 39 = .ok (.aload_n 0, 1) := by decide +kernel
theorem dX12_readRests_40 : decode cX12_readRests 40 = .ok (.getfield 49, 3) := by decide +kernel
theorem dX12_readRests_43 : decode cX12_readRests 43 = .ok (.iload_n 1, 1) := by decide +kernel
theorem dX12_readRests_44 : decode cX12_readRests 44 = .ok (.iaload, 1) := by decide +kernel
theorem dX12_readRests_45 : decode cX12_readRests 45 = .ok (.iadd, 1) := by decide +kernel
theorem dX12_readRests_46 : decode cX12_readRests 46 = .ok (.aload_n 0, 1) := by decide +kernel
theorem dX12_readRests_47 : decode cX12_readRests 47 = .ok (.invokevirtual 223, 3) := by decide +kernel
theorem dX12_readRests_50 : decode cX12_readRests 50 = .ok (.iastore, 1) := by decide +kernel
theorem dX12_readRests_51 : decode cX12_readRests 51 = .ok (.aload_n 0, 1) := by decide +kernel
theorem dX12_readRests_52 : decode cX12_readRests 52 = .ok (.getfield 49, 3) := by decide +kernel
theorem dX12_readRests_55 : decode cX12_readRests 55 = .ok (.iload_n 1, 1) := by decide +kernel
theorem dX12_readRests_56 : decode cX12_readRests 56 = .ok (.dup2, 1) := by decide +kernel
theorem dX12_readRests_57 : decode cX12_readRests 57 = .ok (.iaload, 1) := by decide +kernel
theorem dX12_readRests_58 : decode cX12_readRests 58 = .ok (.iconst 1, 1) := by decide +kernel
theorem dX12_readRests_59 : decode cX12_readRests 59 = .ok (.iadd, 1) := by decide +kernel
theorem dX12_readRests_60 : decode cX12_readRests 60 = .ok (.iastore, 1) := by decide +kernel
theorem dX12_readRests_61 : decode cX12_readRests 61 = .ok (.aload_n 0, 1) := by decide +kernel
theorem dX12_readRests_62 : decode cX12_readRests 62 = .ok (.getfield 118, 3) := by decide +kernel
theorem dX12_readRests_65 : decode cX12_readRests 65 = .ok (.iconst (-1), 1) := by decide +kernel
theorem dX12_readRests_66 : decode cX12_readRests 66 = .ok (.if_icmp .ne 27, 3) := by decide +kernel
theorem dX12_readRests_69 : decode cX12_readRests 69 = .ok (.aload_n 0, 1) := by decide +kernel
theorem dX12_readRests_70 : decode cX12_readRests 70 = .ok (.invokevirtual 130, 3) := by decide +kernel
theorem dX12_readRests_73 : decode cX12_readRests 73 = .ok (.bipush 44, 2) := by decide +kernel
theorem dX12_readRests_75 : decode cX12_readRests 75 = .ok (.if_icmp .ne 18, 3) := by decide +kernel
theorem dX12_readRests_78 : decode cX12_readRests 78 = .ok (.aload_n 0, 1) := by decide +kernel
theorem dX12_readRests_79 : decode cX12_readRests 79 = .ok (.getfield 49, 3) := by decide +kernel
theorem dX12_readRests_82 : decode cX12_readRests 82 = .ok (.iload_n 1, 1) := by decide +kernel
theorem dX12_readRests_83 : decode cX12_readRests 83 = .ok (.iaload, 1) := by decide +kernel
theorem dX12_readRests_84 : decode cX12_readRests 84 = .ok (.bipush 8, 2) := by decide +kernel
theorem dX12_readRests_86 : decode cX12_readRests 86 = .ok (.if_icmp .ge 7, 3) := by decide +kernel
theorem dX12_readRests_89 : decode cX12_readRests 89 = .ok (.iconst 1, 1) := by decide +kernel
theorem dX12_readRests_90 : decode cX12_readRests 90 = .ok (.goto 4, 3) := by decide +kernel
theorem dX12_readRests_93 : decode cX12_readRests 93 = .ok (.iconst 0, 1) := by decide +kernel
theorem dX12_readRests_94 : decode cX12_readRests 94 = .ok (.istore_n 2, 1) := by decide +kernel
theorem dX12_readRests_95 : decode cX12_readRests 95 = .ok (.aload_n 0, 1) := by decide +kernel
theorem dX12_readRests_96 : decode cX12_readRests 96 = .ok (.dup, 1) := by decide +kernel
theorem dX12_readRests_97 : decode cX12_readRests 97 = .ok (.getfield 111, 3) := by decide +kernel
theorem dX12_readRests_100 : decode cX12_readRests 100 = .ok (.iload_n 2, 1) := by decide +kernel
theorem dX12_readRests_101 : decode cX12_readRests 101 = .ok (.ifCond .eq 7, 3) := by decide +kernel
theorem dX12_readRests_104 : decode cX12_readRests 104 = .ok (.iconst 1, 1) := by decide +kernel
theorem dX12_readRests_105 : decode cX12_readRests 105 = .ok (.goto 4, 3) := by decide +kernel
theorem dX12_readRests_108 : decode cX12_readRests 108 = .ok (.iconst 0, 1) := by decide +kernel
theorem dX12_readRests_109 : decode cX12_readRests 109 = .ok (.iadd, 1) := by decide +kernel
theorem dX12_readRests_110 : decode cX12_readRests 110 = .ok (.putfield 111, 3) := by decide +kernel
theorem dX12_readRests_113 : decode cX12_readRests 113 = .ok (.goto (-94), 3) := by decide +kernel
theorem dX12_readRests_116 : decode cX12_readRests 116 = .ok (.aload_n 0, 1) := by decide +kernel
theorem dX12_readRests_117 : decode cX12_readRests 117 = .ok (.invokevirtual 188, 3) := by decide +kernel
theorem dX12_readRests_120 : decode cX12_readRests 120 = .ok (.ireturn, 1) := by decide +kernel
theorem dX12_number_0 : decode cX12_number 0 = .ok (.aload_n 0, 1) := by decide +kernel
theorem dX12_number_1 : decode cX12_number 1 = .ok (.invokevirtual 130, 3) := by decide +kernel
theorem dX12_number_4 : decode cX12_number 4 = .ok (.invokestatic 133, 3) := by decide +kernel
theorem dX12_number_7 : decode cX12_number 7 = .ok (.ifCond .ne 9, 3) := by decide +kernel
theorem dX12_number_10 : decode cX12_number 10 = .ok (.aload_n 0, 1) := by decide +kernel
theorem dX12_number_11 : decode cX12_number 11 = .ok (.invokevirtual 127, 3) := by decide +kernel
theorem dX12_number_14 : decode cX12_number 14 = .ok (.iconst 0, 1) := by decide +kernel
theorem dX12_number_15 : decode cX12_number 15 = .ok (.ireturn, 1) := by decide +kernel
theorem dX12_number_16 : decode cX12_number 16 = .ok (.aload_n 0, 1) := by decide +kernel
theorem dX12_number_17 : decode cX12_number 17 = .ok (.invokevirtual 114, 3) := by decide +kernel
theorem dX12_number_20 : decode cX12_number 20 = .ok (.bipush 48, 2) := by decide +kernel
theorem dX12_number_22 : decode cX12_number 22 = .ok (.isub, 1) := by decide +kernel
theorem dX12_number_23 : decode cX12_number 23 = .ok (.istore_n 1, 1) := by decide +kernel
theorem dX12_number_24 : decode cX12_number 24 = .ok (.aload_n 0, 1) := by decide +kernel
theorem dX12_number_25 : decode cX12_number 25 = .ok (.dup, 1) := by decide +kernel
theorem dX12_number_26 : decode cX12_number 26 = .ok (.getfield 111, 3) := by decide +kernel
theorem dX12_number_29 : decode cX12_number 29 = .ok (.iconst 1, 1) := by decide +kernel
theorem dX12_number_30 : decode cX12_number 30 = .ok (.iadd, 1) := by decide +kernel
theorem dX12_number_31 : decode cX12_number 31 = .ok (.putfield 111, 3) := by decide +kernel
theorem dX12_number_34 : decode cX12_number 34 = .ok (.aload_n 0, 1) := by decide +kernel
theorem dX12_number_35 : decode cX12_number 35 = .ok (.invokevirtual 114, 3) := by decide +kernel
theorem dX12_number_38 : decode cX12_number 38 = .ok (.invokestatic 133, 3) := by decide +kernel
theorem dX12_number_41 : decode cX12_number 41 = .ok (.istore_n 2, 1) := by decide +kernel
theorem dX12_number_42 : decode cX12_number 42 = .ok (.iload_n 2, 1) := by decide +kernel
theorem dX12_number_43 : decode cX12_number 43 = .ok (.ifCond .eq 26, 3) := by decide +kernel
theorem dX12_number_46 : decode cX12_number 46 = .ok (.bipush 10, 2) := by decide +kernel
theorem dX12_number_48 : decode cX12_number 48 = .ok (.iload_n 1, 1) := by decide +kernel
theorem dX12_number_49 : decode cX12_number 49 = .ok (.imul, 1) := by decide +kernel
theorem dX12_number_50 : decode cX12_number 50 = .ok (.aload_n 0, 1) := by decide +kernel
theorem dX12_number_51 : decode cX12_number 51 = .ok (.invokevirtual 114, 3) := by decide +kernel
theorem dX12_number_54 : decode cX12_number 54 = .ok (.iadd, 1) := by decide +kernel
theorem dX12_number_55 : decode cX12_number 55 = .ok (.bipush 48, 2) := by decide +kernel
theorem dX12_number_57 : decode cX12_number 57 = .ok (.isub, 1) := by decide +kernel
theorem dX12_number_58 : decode cX12_number 58 = .ok (.istore_n 1, 1) := by decide +kernel
theorem dX12_number_59 : decode cX12_number 59 = .ok (.aload_n 0, 1) := by decide +kernel
theorem dX12_number_60 : decode cX12_number 60 = .ok (.dup, 1) := by decide +kernel
theorem dX12_number_61 : decode cX12_number 61 = .ok (.getfield 111, 3) := by decide +kernel
theorem dX12_number_64 : decode cX12_number 64 = .ok (.iconst 1, 1) := by decide +kernel
theorem dX12_number_65 : decode cX12_number 65 = .ok (.iadd, 1) := by decide +kernel
theorem dX12_number_66 : decode cX12_number 66 = .ok (.putfield 111, 3) := by decide +kernel
theorem dX12_number_69 : decode cX12_number 69 = .ok (.aload_n 0, 1) := by decide +kernel
theorem dX12_number_70 : decode cX12_number 70 = .ok (.invokevirtual 114, 3) := by decide +kernel
theorem dX12_number_73 : decode cX12_number 73 = .ok (.invokestatic 133, 3) := by decide +kernel
theorem dX12_number_76 : decode cX12_number 76 = .ok (.ifCond .eq 19, 3) := by decide +kernel
theorem dX12_number_79 : decode cX12_number 79 = .ok (.iload_n 2, 1) := by decide +kernel
theorem dX12_number_80 : decode cX12_number 80 = .ok (.ifCond .eq 8, 3) := by decide +kernel
theorem dX12_number_83 : decode cX12_number 83 = .ok (.iload_n 1, 1) := by decide +kernel
theorem dX12_number_84 : decode cX12_number 84 = .ok (.iconst 2, 1) := by decide +kernel
theorem dX12_number_85 : decode cX12_number 85 = .ok (.if_icmp .lt 10, 3) := by decide +kernel
theorem dX12_number_88 : decode cX12_number 88 = .ok (.aload_n 0, 1) := by decide +kernel
theorem dX12_number_89 : decode cX12_number 89 = .ok (.invokevirtual 127, 3) := by decide +kernel
theorem dX12_number_92 : decode cX12_number 92 = .ok (.goto 22, 3) := by decide +kernel
theorem dX12_number_95 : decode cX12_number 95 = .ok (.iload_n 1, 1) := by decide +kernel
theorem dX12_number_96 : decode cX12_number 96 = .ok (.iconst 2, 1) := by decide +kernel
theorem dX12_number_97 : decode cX12_number 97 = .ok (.if_icmp .ge 17, 3) := by decide +kernel
theorem dX12_number_100 : decode cX12_number 100 = .ok (.aload_n 0, 1) := by decide +kernel
theorem dX12_number_101 : decode cX12_number 101 = .ok (.dup, 1) := by decide +kernel
theorem dX12_number_102 : decode cX12_number 102 = .ok (.getfield 111, 3) := by decide +kernel
theorem dX12_number_105 : decode cX12_number 105 = .ok (.iconst 1, 1) := by decide +kernel
theorem dX12_number_106 : decode cX12_number 106 = .ok (.isub, 1) := by decide +kernel
theorem dX12_number_107 : decode cX12_number 107 = .ok (.putfield 111, 3) := by decide +kernel
theorem dX12_number_110 : decode cX12_number 110 = .ok (.aload_n 0, 1) := by decide +kernel
theorem dX12_number_111 : decode cX12_number 111 = .ok (.invokevirtual 127, 3) := by decide +kernel
theorem dX12_number_114 : decode cX12_number 114 = .ok (.iload_n 1, 1) := by decide +kernel
theorem dX12_number_115 : decode cX12_number 115 = .ok (.ireturn, 1) := by decide +kernel
theorem dX12_fault_0 : decode cX12_fault 0 = .ok (.iload_n 1, 1) := by decide +kernel
theorem dX12_fault_1 : decode cX12_fault 1 = .ok (.ifCond .ne 12, 3) := by decide +kernel
theorem dX12_fault_4 : decode cX12_fault 4 = .ok (.aload_n 0, 1) := by decide +kernel
theorem dX12_fault_5 : decode cX12_fault 5 = .ok (.bipush 8, 2) := by decide +kernel
theorem dX12_fault_7 : decode cX12_fault 7 = .ok (.invokevirtual 226, 3) := by decide +kernel
theorem dX12_fault_10 : decode cX12_fault 10 = .ok (.goto 33, 3) := by decide +kernel
theorem dX12_fault_13 : decode cX12_fault 13 = .ok (.iload_n 1, 1) := by decide +kernel
theorem dX12_fault_14 : decode cX12_fault 14 = .ok (.iconst 1, 1) := by decide +kernel
theorem dX12_fault_15 : decode cX12_fault 15 = .ok (.if_icmp .ne 12, 3) := by decide +kernel
theorem dX12_fault_18 : decode cX12_fault 18 = .ok (.aload_n 0, 1) := by decide +kernel
theorem dX12_fault_19 : decode cX12_fault 19 = .ok (.bipush 6, 2) := by decide +kernel
theorem dX12_fault_21 : decode cX12_fault 21 = .ok (.invokevirtual 229, 3) := by decide +kernel
theorem dX12_fault_24 : decode cX12_fault 24 = .ok (.goto 19, 3) := by decide +kernel
theorem dX12_fault_27 : decode cX12_fault 27 = .ok (.iload_n 1, 1) := by decide +kernel
theorem dX12_fault_28 : decode cX12_fault 28 = .ok (.iconst 2, 1) := by decide +kernel
theorem dX12_fault_29 : decode cX12_fault 29 = .ok (.if_icmp .ne 12, 3) := by decide +kernel
theorem dX12_fault_32 : decode cX12_fault 32 = .ok (.aload_n 0, 1) := by decide +kernel
theorem dX12_fault_33 : decode cX12_fault 33 = .ok (.bipush 6, 2) := by decide +kernel
theorem dX12_fault_35 : decode cX12_fault 35 = .ok (.invokevirtual 232, 3) := by decide +kernel
theorem dX12_fault_38 : decode cX12_fault 38 = .ok (.goto 5, 3) := by decide +kernel
theorem dX12_fault_41 : decode cX12_fault 41 = .ok (.bipush (-2), 2) := by decide +kernel
theorem dX12_fault_43 : decode cX12_fault 43 = .ok (.ireturn, 1) := by decide +kernel
theorem dX12_text_0 : decode cX12_text 0 = .ok (.iload_n 1, 1) := by decide +kernel
theorem dX12_text_1 : decode cX12_text 1 = .ok (.ifCond .ne 46, 3) := by decide +kernel
theorem dX12_text_4 : decode cX12_text 4 = .ok (.aload_n 0, 1) := by decide +kernel
theorem dX12_text_5 : decode cX12_text 5 = .ok (.getfield 235, 3) := by decide +kernel
theorem dX12_text_8 : decode cX12_text 8 = .ok (.bipush 8, 2) := by decide +kernel
theorem dX12_text_10 : decode cX12_text 10 = .ok (.if_icmp .ge 37, 3) := by decide +kernel
theorem dX12_text_13 : decode cX12_text 13 = .ok (.aload_n 0, 1) := by decide +kernel
theorem dX12_text_14 : decode cX12_text 14 = .ok (.aload_n 0, 1) := by decide +kernel
theorem dX12_text_15 : decode cX12_text 15 = .ok (.getfield 235, 3) := by decide +kernel
theorem dX12_text_18 : decode cX12_text 18 = .ok (.invokevirtual 226, 3) := by decide +kernel
theorem dX12_text_21 : decode cX12_text 21 = .ok (.iconst (-1), 1) := by decide +kernel
theorem dX12_text_22 : decode cX12_text 22 = .ok (.if_icmp .ne 25, 3) := by decide +kernel
theorem dX12_text_25 : decode cX12_text 25 = .ok (.aload_n 0, 1) := by decide +kernel
theorem dX12_text_26 : decode cX12_text 26 = .ok (.iconst 0, 1) := by decide +kernel
theorem dX12_text_27 : decode cX12_text 27 = .ok (.putfield 108, 3) := by decide +kernel
theorem dX12_text_30 : decode cX12_text 30 = .ok (.aload_n 0, 1) := by decide +kernel
theorem dX12_text_31 : decode cX12_text 31 = .ok (.dup, 1) := by decide +kernel
theorem dX12_text_32 : decode cX12_text 32 = .ok (.getfield 235, 3) := by decide +kernel
theorem dX12_text_35 : decode cX12_text 35 = .ok (.iconst 1, 1) := by decide +kernel
theorem dX12_text_36 : decode cX12_text 36 = .ok (.iadd, 1) := by decide +kernel
theorem dX12_text_37 : decode cX12_text 37 = .ok (.putfield 235, 3) := by decide +kernel
theorem dX12_text_40 : decode cX12_text 40 = .ok (.aload_n 0, 1) := by decide +kernel
theorem dX12_text_41 : decode cX12_text 41 = .ok (.getfield 235, 3) := by decide +kernel
theorem dX12_text_44 : decode cX12_text 44 = .ok (.iconst 1, 1) := by decide +kernel
theorem dX12_text_45 : decode cX12_text 45 = .ok (.isub, 1) := by decide +kernel
theorem dX12_text_46 : decode cX12_text 46 = .ok (.ireturn, 1) := by decide +kernel
theorem dX12_text_47 : decode cX12_text 47 = .ok (.iload_n 1, 1) := by decide +kernel
theorem dX12_text_48 : decode cX12_text 48 = .ok (.iconst 1, 1) := by decide +kernel
theorem dX12_text_49 : decode cX12_text 49 = .ok (.if_icmp .ne 46, 3) := by decide +kernel
theorem dX12_text_52 : decode cX12_text 52 = .ok (.aload_n 0, 1) := by decide +kernel
theorem dX12_text_53 : decode cX12_text 53 = .ok (.getfield 238, 3) := by decide +kernel
theorem dX12_text_56 : decode cX12_text 56 = .ok (.bipush 6, 2) := by decide +kernel
theorem dX12_text_58 : decode cX12_text 58 = .ok (.if_icmp .ge 37, 3) := by decide +kernel
theorem dX12_text_61 : decode cX12_text 61 = .ok (.aload_n 0, 1) := by decide +kernel
theorem dX12_text_62 : decode cX12_text 62 = .ok (.aload_n 0, 1) := by decide +kernel
theorem dX12_text_63 : decode cX12_text 63 = .ok (.getfield 238, 3) := by decide +kernel
theorem dX12_text_66 : decode cX12_text 66 = .ok (.invokevirtual 229, 3) := by decide +kernel
theorem dX12_text_69 : decode cX12_text 69 = .ok (.iconst (-1), 1) := by decide +kernel
theorem dX12_text_70 : decode cX12_text 70 = .ok (.if_icmp .ne 25, 3) := by decide +kernel
theorem dX12_text_73 : decode cX12_text 73 = .ok (.aload_n 0, 1) := by decide +kernel
theorem dX12_text_74 : decode cX12_text 74 = .ok (.iconst 0, 1) := by decide +kernel
theorem dX12_text_75 : decode cX12_text 75 = .ok (.putfield 108, 3) := by decide +kernel
theorem dX12_text_78 : decode cX12_text 78 = .ok (.aload_n 0, 1) := by decide +kernel
theorem dX12_text_79 : decode cX12_text 79 = .ok (.dup, 1) := by decide +kernel
theorem dX12_text_80 : decode cX12_text 80 = .ok (.getfield 238, 3) := by decide +kernel
theorem dX12_text_83 : decode cX12_text 83 = .ok (.iconst 1, 1) := by decide +kernel
theorem dX12_text_84 : decode cX12_text 84 = .ok (.iadd, 1) := by decide +kernel
theorem dX12_text_85 : decode cX12_text 85 = .ok (.putfield 238, 3) := by decide +kernel
theorem dX12_text_88 : decode cX12_text 88 = .ok (.aload_n 0, 1) := by decide +kernel
theorem dX12_text_89 : decode cX12_text 89 = .ok (.getfield 238, 3) := by decide +kernel
theorem dX12_text_92 : decode cX12_text 92 = .ok (.iconst 1, 1) := by decide +kernel
theorem dX12_text_93 : decode cX12_text 93 = .ok (.isub, 1) := by decide +kernel
theorem dX12_text_94 : decode cX12_text 94 = .ok (.ireturn, 1) := by decide +kernel
theorem dX12_text_95 : decode cX12_text 95 = .ok (.iload_n 1, 1) := by decide +kernel
theorem dX12_text_96 : decode cX12_text 96 = .ok (.iconst 2, 1) := by decide +kernel
theorem dX12_text_97 : decode cX12_text 97 = .ok (.if_icmp .ne 46, 3) := by decide +kernel
theorem dX12_text_100 : decode cX12_text 100 = .ok (.aload_n 0, 1) := by decide +kernel
theorem dX12_text_101 : decode cX12_text 101 = .ok (.getfield 241, 3) := by decide +kernel
theorem dX12_text_104 : decode cX12_text 104 = .ok (.bipush 6, 2) := by decide +kernel
theorem dX12_text_106 : decode cX12_text 106 = .ok (.if_icmp .ge 37, 3) := by decide +kernel
theorem dX12_text_109 : decode cX12_text 109 = .ok (.aload_n 0, 1) := by decide +kernel
theorem dX12_text_110 : decode cX12_text 110 = .ok (.aload_n 0, 1) := by decide +kernel
theorem dX12_text_111 : decode cX12_text 111 = .ok (.getfield 241, 3) := by decide +kernel
theorem dX12_text_114 : decode cX12_text 114 = .ok (.invokevirtual 232, 3) := by decide +kernel
theorem dX12_text_117 : decode cX12_text 117 = .ok (.iconst (-1), 1) := by decide +kernel
theorem dX12_text_118 : decode cX12_text 118 = .ok (.if_icmp .ne 25, 3) := by decide +kernel
theorem dX12_text_121 : decode cX12_text 121 = .ok (.aload_n 0, 1) := by decide +kernel
theorem dX12_text_122 : decode cX12_text 122 = .ok (.iconst 0, 1) := by decide +kernel
theorem dX12_text_123 : decode cX12_text 123 = .ok (.putfield 108, 3) := by decide +kernel
theorem dX12_text_126 : decode cX12_text 126 = .ok (.aload_n 0, 1) := by decide +kernel
theorem dX12_text_127 : decode cX12_text 127 = .ok (.dup, 1) := by decide +kernel
theorem dX12_text_128 : decode cX12_text 128 = .ok (.getfield 241, 3) := by decide +kernel
theorem dX12_text_131 : decode cX12_text 131 = .ok (.iconst 1, 1) := by decide +kernel
theorem dX12_text_132 : decode cX12_text 132 = .ok (.iadd, 1) := by decide +kernel
theorem dX12_text_133 : decode cX12_text 133 = .ok (.putfield 241, 3) := by decide +kernel
theorem dX12_text_136 : decode cX12_text 136 = .ok (.aload_n 0, 1) := by decide +kernel
theorem dX12_text_137 : decode cX12_text 137 = .ok (.getfield 241, 3) := by decide +kernel
theorem dX12_text_140 : decode cX12_text 140 = .ok (.iconst 1, 1) := by decide +kernel
theorem dX12_text_141 : decode cX12_text 141 = .ok (.isub, 1) := by decide +kernel
theorem dX12_text_142 : decode cX12_text 142 = .ok (.ireturn, 1) := by decide +kernel
theorem dX12_text_143 : decode cX12_text 143 = .ok (.iconst (-1), 1) := by decide +kernel
theorem dX12_text_144 : decode cX12_text 144 = .ok (.ireturn, 1) := by decide +kernel
theorem dX12_isCode_0 : decode cX12_isCode 0 = .ok (.iload_n 1, 1) := by decide +kernel
theorem dX12_isCode_1 : decode cX12_isCode 1 = .ok (.iconst 0, 1) := by decide +kernel
theorem dX12_isCode_2 : decode cX12_isCode 2 = .ok (.aload_n 0, 1) := by decide +kernel
theorem dX12_isCode_3 : decode cX12_isCode 3 = .ok (.getfield 235, 3) := by decide +kernel
theorem dX12_isCode_6 : decode cX12_isCode 6 = .ok (.iconst 1, 1) := by decide +kernel
theorem dX12_isCode_7 : decode cX12_isCode 7 = .ok (.isub, 1) := by decide +kernel
theorem dX12_isCode_8 : decode cX12_isCode 8 = .ok (.invokestatic 219, 3) := by decide +kernel
theorem dX12_isCode_11 : decode cX12_isCode 11 = .ok (.ireturn, 1) := by decide +kernel
theorem dX12_isLaw_0 : decode cX12_isLaw 0 = .ok (.iload_n 1, 1) := by decide +kernel
theorem dX12_isLaw_1 : decode cX12_isLaw 1 = .ok (.iconst (-1), 1) := by decide +kernel
theorem dX12_isLaw_2 : decode cX12_isLaw 2 = .ok (.aload_n 0, 1) := by decide +kernel
theorem dX12_isLaw_3 : decode cX12_isLaw 3 = .ok (.getfield 238, 3) := by decide +kernel
theorem dX12_isLaw_6 : decode cX12_isLaw 6 = .ok (.iconst 1, 1) := by decide +kernel
theorem dX12_isLaw_7 : decode cX12_isLaw 7 = .ok (.isub, 1) := by decide +kernel
theorem dX12_isLaw_8 : decode cX12_isLaw 8 = .ok (.invokestatic 219, 3) := by decide +kernel
theorem dX12_isLaw_11 : decode cX12_isLaw 11 = .ok (.ireturn, 1) := by decide +kernel
theorem dX12_isSet_0 : decode cX12_isSet 0 = .ok (.iload_n 1, 1) := by decide +kernel
theorem dX12_isSet_1 : decode cX12_isSet 1 = .ok (.iconst 0, 1) := by decide +kernel
theorem dX12_isSet_2 : decode cX12_isSet 2 = .ok (.aload_n 0, 1) := by decide +kernel
theorem dX12_isSet_3 : decode cX12_isSet 3 = .ok (.getfield 241, 3) := by decide +kernel
theorem dX12_isSet_6 : decode cX12_isSet 6 = .ok (.iconst 1, 1) := by decide +kernel
theorem dX12_isSet_7 : decode cX12_isSet 7 = .ok (.isub, 1) := by decide +kernel
theorem dX12_isSet_8 : decode cX12_isSet 8 = .ok (.invokestatic 219, 3) := by decide +kernel
theorem dX12_isSet_11 : decode cX12_isSet 11 = .ok (.ireturn, 1) := by decide +kernel
theorem dX12_sign_0 : decode cX12_sign 0 = .ok (.aload_n 0, 1) := by decide +kernel
theorem dX12_sign_1 : decode cX12_sign 1 = .ok (.iload_n 1, 1) := by decide +kernel
theorem dX12_sign_2 : decode cX12_sign 2 = .ok (.invokevirtual 244, 3) := by decide +kernel
theorem dX12_sign_5 : decode cX12_sign 5 = .ok (.ifCond .eq 23, 3) := by decide +kernel
theorem dX12_sign_8 : decode cX12_sign 8 = .ok (.iload_n 2, 1) := by decide +kernel
theorem dX12_sign_9 : decode cX12_sign 9 = .ok (.iconst (-1), 1) := by decide +kernel
theorem dX12_sign_10 : decode cX12_sign 10 = .ok (.aload_n 0, 1) := by decide +kernel
theorem dX12_sign_11 : decode cX12_sign 11 = .ok (.getfield 43, 3) := by decide +kernel
theorem dX12_sign_14 : decode cX12_sign 14 = .ok (.iload_n 1, 1) := by decide +kernel
theorem dX12_sign_15 : decode cX12_sign 15 = .ok (.iaload, 1) := by decide +kernel
theorem dX12_sign_16 : decode cX12_sign 16 = .ok (.iconst 1, 1) := by decide +kernel
theorem dX12_sign_17 : decode cX12_sign 17 = .ok (.isub, 1) := by decide +kernel
theorem dX12_sign_18 : decode cX12_sign 18 = .ok (.invokestatic 219, 3) := by decide +kernel
theorem dX12_sign_21 : decode cX12_sign 21 = .ok (.ifCond .eq 7, 3) := by decide +kernel
theorem dX12_sign_24 : decode cX12_sign 24 = .ok (.iconst 1, 1) := by decide +kernel
theorem dX12_sign_25 : decode cX12_sign 25 = .ok (.goto 4, 3) := by decide +kernel
theorem dX12_sign_28 : decode cX12_sign 28 = .ok (.iconst 0, 1) := by decide +kernel
theorem dX12_sign_29 : decode cX12_sign 29 = .ok (.istore_n 3, 1) := by decide +kernel
theorem dX12_sign_30 : decode cX12_sign 30 = .ok (.aload_n 0, 1) := by decide +kernel
theorem dX12_sign_31 : decode cX12_sign 31 = .ok (.iload_n 3, 1) := by decide +kernel
theorem dX12_sign_32 : decode cX12_sign 32 = .ok (.ifCond .eq 7, 3) := by decide +kernel
theorem dX12_sign_35 : decode cX12_sign 35 = .ok (.iconst 0, 1) := by decide +kernel
theorem dX12_sign_36 : decode cX12_sign 36 = .ok (.goto 4, 3) := by decide +kernel
theorem dX12_sign_39 : decode cX12_sign 39 = .ok (.iconst 1, 1) := by decide +kernel
theorem dX12_sign_40 : decode cX12_sign 40 = .ok (.putfield 101, 3) := by decide +kernel
theorem dX12_sign_43 : decode cX12_sign 43 = .ok (.iload_n 3, 1) := by decide +kernel
theorem dX12_sign_44 : decode cX12_sign 44 = .ok (.ifCond .ne 7, 3) := by decide +kernel
theorem dX12_sign_47 : decode cX12_sign 47 = .ok (.iconst 0, 1) := by decide +kernel
theorem dX12_sign_48 : decode cX12_sign 48 = .ok (.goto 28, 3) := by decide +kernel
theorem dX12_sign_51 : decode cX12_sign 51 = .ok (.iload_n 2, 1) := by decide +kernel
theorem dX12_sign_52 : decode cX12_sign 52 = .ok (.iconst (-1), 1) := by decide +kernel
theorem dX12_sign_53 : decode cX12_sign 53 = .ok (.if_icmp .ne 12, 3) := by decide +kernel
theorem dX12_sign_56 : decode cX12_sign 56 = .ok (.aload_n 0, 1) := by decide +kernel
theorem dX12_sign_57 : decode cX12_sign 57 = .ok (.getfield 43, 3) := by decide +kernel
theorem dX12_sign_60 : decode cX12_sign 60 = .ok (.iload_n 1, 1) := by decide +kernel
theorem dX12_sign_61 : decode cX12_sign 61 = .ok (.iaload, 1) := by decide +kernel
theorem dX12_sign_62 : decode cX12_sign 62 = .ok (.goto 14, 3) := by decide +kernel
theorem dX12_sign_65 : decode cX12_sign 65 = .ok (.aload_n 0, 1) := by decide +kernel
theorem dX12_sign_66 : decode cX12_sign 66 = .ok (.getfield 40, 3) := by decide +kernel
theorem dX12_sign_69 : decode cX12_sign 69 = .ok (.bipush 24, 2) := by decide +kernel
theorem dX12_sign_71 : decode cX12_sign 71 = .ok (.iload_n 1, 1) := by decide +kernel
theorem dX12_sign_72 : decode cX12_sign 72 = .ok (.imul, 1) := by decide +kernel
theorem dX12_sign_73 : decode cX12_sign 73 = .ok (.iload_n 2, 1) := by decide +kernel
theorem dX12_sign_74 : decode cX12_sign 74 = .ok (.iadd, 1) := by decide +kernel
theorem dX12_sign_75 : decode cX12_sign 75 = .ok (.iaload, 1) := by decide +kernel
theorem dX12_sign_76 : decode cX12_sign 76 = .ok (.ireturn, 1) := by decide +kernel
theorem dX12_rest_0 : decode cX12_rest 0 = .ok (.aload_n 0, 1) := by decide +kernel
theorem dX12_rest_1 : decode cX12_rest 1 = .ok (.iload_n 1, 1) := by decide +kernel
theorem dX12_rest_2 : decode cX12_rest 2 = .ok (.invokevirtual 247, 3) := by decide +kernel
theorem dX12_rest_5 : decode cX12_rest 5 = .ok (.ifCond .eq 19, 3) := by decide +kernel
theorem dX12_rest_8 : decode cX12_rest 8 = .ok (.iload_n 2, 1) := by decide +kernel
theorem dX12_rest_9 : decode cX12_rest 9 = .ok (.iconst (-1), 1) := by decide +kernel
theorem dX12_rest_10 : decode cX12_rest 10 = .ok (.aload_n 0, 1) := by decide +kernel
theorem dX12_rest_11 : decode cX12_rest 11 = .ok (.getfield 49, 3) := by decide +kernel
theorem dX12_rest_14 : decode cX12_rest 14 = .ok (.iload_n 1, 1) := by decide +kernel
theorem dX12_rest_15 : decode cX12_rest 15 = .ok (.iaload, 1) := by decide +kernel
theorem dX12_rest_16 : decode cX12_rest 16 = .ok (.iconst 1, 1) := by decide +kernel
theorem dX12_rest_17 : decode cX12_rest 17 = .ok (.isub, 1) := by decide +kernel
theorem dX12_rest_18 : decode cX12_rest 18 = .ok (.invokestatic 219, 3) := by decide +kernel
theorem dX12_rest_21 : decode cX12_rest 21 = .ok (.ifCond .ne 7, 3) := by decide +kernel
theorem dX12_rest_24 : decode cX12_rest 24 = .ok (.iconst (-1), 1) := by decide +kernel
theorem dX12_rest_25 : decode cX12_rest 25 = .ok (.goto 28, 3) := by decide +kernel
theorem dX12_rest_28 : decode cX12_rest 28 = .ok (.iload_n 2, 1) := by decide +kernel
theorem dX12_rest_29 : decode cX12_rest 29 = .ok (.iconst (-1), 1) := by decide +kernel
theorem dX12_rest_30 : decode cX12_rest 30 = .ok (.if_icmp .ne 12, 3) := by decide +kernel
theorem dX12_rest_33 : decode cX12_rest 33 = .ok (.aload_n 0, 1) := by decide +kernel
theorem dX12_rest_34 : decode cX12_rest 34 = .ok (.getfield 49, 3) := by decide +kernel
theorem dX12_rest_37 : decode cX12_rest 37 = .ok (.iload_n 1, 1) := by decide +kernel
theorem dX12_rest_38 : decode cX12_rest 38 = .ok (.iaload, 1) := by decide +kernel
theorem dX12_rest_39 : decode cX12_rest 39 = .ok (.goto 14, 3) := by decide +kernel
theorem dX12_rest_42 : decode cX12_rest 42 = .ok (.aload_n 0, 1) := by decide +kernel
theorem dX12_rest_43 : decode cX12_rest 43 = .ok (.getfield 46, 3) := by decide +kernel
theorem dX12_rest_46 : decode cX12_rest 46 = .ok (.bipush 8, 2) := by decide +kernel
theorem dX12_rest_48 : decode cX12_rest 48 = .ok (.iload_n 1, 1) := by decide +kernel
theorem dX12_rest_49 : decode cX12_rest 49 = .ok (.imul, 1) := by decide +kernel
theorem dX12_rest_50 : decode cX12_rest 50 = .ok (.iload_n 2, 1) := by decide +kernel
theorem dX12_rest_51 : decode cX12_rest 51 = .ok (.iadd, 1) := by decide +kernel
theorem dX12_rest_52 : decode cX12_rest 52 = .ok (.iaload, 1) := by decide +kernel
theorem dX12_rest_53 : decode cX12_rest 53 = .ok (.ireturn, 1) := by decide +kernel
theorem dX12_partOf_0 : decode cX12_partOf 0 = .ok (.iload_n 0, 1) := by decide +kernel
theorem dX12_partOf_1 : decode cX12_partOf 1 = .ok (.iconst 3, 1) := by decide +kernel
theorem dX12_partOf_2 : decode cX12_partOf 2 = .ok (.iand, 1) := by decide +kernel
theorem dX12_partOf_3 : decode cX12_partOf 3 = .ok (.istore_n 2, 1) := by decide +kernel
theorem dX12_partOf_4 : decode cX12_partOf 4 = .ok (.iload_n 1, 1) := by decide +kernel
theorem dX12_partOf_5 : decode cX12_partOf 5 = .ok (.ifCond .eq 24, 3) := by decide +kernel
theorem dX12_partOf_8 : decode cX12_partOf 8 = .ok (.iload_n 2, 1) := by decide +kernel
theorem dX12_partOf_9 : decode cX12_partOf 9 = .ok (.ifCond .ne 7, 3) := by decide +kernel
theorem dX12_partOf_12 : decode cX12_partOf 12 = .ok (.iconst 1, 1) := by decide +kernel
theorem dX12_partOf_13 : decode cX12_partOf 13 = .ok (.goto 35, 3) := by decide +kernel
theorem dX12_partOf_16 : decode cX12_partOf 16 = .ok (.iload_n 2, 1) := by decide +kernel
theorem dX12_partOf_17 : decode cX12_partOf 17 = .ok (.iconst 2, 1) := by decide +kernel
theorem dX12_partOf_18 : decode cX12_partOf 18 = .ok (.if_icmp .ne 7, 3) := by decide +kernel
theorem dX12_partOf_21 : decode cX12_partOf 21 = .ok (.iconst (-1), 1) := by decide +kernel
theorem dX12_partOf_22 : decode cX12_partOf 22 = .ok (.goto 26, 3) := by decide +kernel
theorem dX12_partOf_25 : decode cX12_partOf 25 = .ok (.iconst 0, 1) := by decide +kernel
theorem dX12_partOf_26 : decode cX12_partOf 26 = .ok (.goto 22, 3) := by decide +kernel
theorem dX12_partOf_29 : decode cX12_partOf 29 = .ok (.iload_n 2, 1) := by decide +kernel
theorem dX12_partOf_30 : decode cX12_partOf 30 = .ok (.iconst 1, 1) := by decide +kernel
theorem dX12_partOf_31 : decode cX12_partOf 31 = .ok (.if_icmp .ne 7, 3) := by decide +kernel
theorem dX12_partOf_34 : decode cX12_partOf 34 = .ok (.iconst 1, 1) := by decide +kernel
theorem dX12_partOf_35 : decode cX12_partOf 35 = .ok (.goto 13, 3) := by decide +kernel
theorem dX12_partOf_38 : decode cX12_partOf 38 = .ok (.iload_n 2, 1) := by decide +kernel
theorem dX12_partOf_39 : decode cX12_partOf 39 = .ok (.iconst 3, 1) := by decide +kernel
theorem dX12_partOf_40 : decode cX12_partOf 40 = .ok (.if_icmp .ne 7, 3) := by decide +kernel
theorem dX12_partOf_43 : decode cX12_partOf 43 = .ok (.iconst (-1), 1) := by decide +kernel
theorem dX12_partOf_44 : decode cX12_partOf 44 = .ok (.goto 4, 3) := by decide +kernel
theorem dX12_partOf_47 : decode cX12_partOf 47 = .ok (.iconst 0, 1) := by decide +kernel
theorem dX12_partOf_48 : decode cX12_partOf 48 = .ok (.ireturn, 1) := by decide +kernel
theorem dX12_weightOf_0 : decode cX12_weightOf 0 = .ok (.iload_n 2, 1) := by decide +kernel
theorem dX12_weightOf_1 : decode cX12_weightOf 1 = .ok (.iconst (-1), 1) := by decide +kernel
theorem dX12_weightOf_2 : decode cX12_weightOf 2 = .ok (.if_icmp .ne 5, 3) := by decide +kernel
theorem dX12_weightOf_5 : decode cX12_weightOf 5 = .ok (.iconst 1, 1) := by decide +kernel
theorem dX12_weightOf_6 : decode cX12_weightOf 6 = .ok (.ireturn, 1) := by decide +kernel
theorem dX12_weightOf_7 : decode cX12_weightOf 7 = .ok (.aload_n 0, 1) := by decide +kernel
theorem dX12_weightOf_8 : decode cX12_weightOf 8 = .ok (.getfield 40, 3) := by decide +kernel
theorem dX12_weightOf_11 : decode cX12_weightOf 11 = .ok (.bipush 24, 2) := by decide +kernel
theorem dX12_weightOf_13 : decode cX12_weightOf 13 = .ok (.iload_n 1, 1) := by decide +kernel
theorem dX12_weightOf_14 : decode cX12_weightOf 14 = .ok (.imul, 1) := by decide +kernel
theorem dX12_weightOf_15 : decode cX12_weightOf 15 = .ok (.iload_n 3, 1) := by decide +kernel
theorem dX12_weightOf_16 : decode cX12_weightOf 16 = .ok (.iadd, 1) := by decide +kernel
theorem dX12_weightOf_17 : decode cX12_weightOf 17 = .ok (.iaload, 1) := by decide +kernel
theorem dX12_weightOf_18 : decode cX12_weightOf 18 = .ok (.istore 4, 2) := by decide +kernel
theorem dX12_weightOf_20 : decode cX12_weightOf 20 = .ok (.aload_n 0, 1) := by decide +kernel
theorem dX12_weightOf_21 : decode cX12_weightOf 21 = .ok (.getfield 34, 3) := by decide +kernel
theorem dX12_weightOf_24 : decode cX12_weightOf 24 = .ok (.iconst 0, 1) := by decide +kernel
theorem dX12_weightOf_25 : decode cX12_weightOf 25 = .ok (.iload_n 3, 1) := by decide +kernel
theorem dX12_weightOf_26 : decode cX12_weightOf 26 = .ok (.iastore, 1) := by decide +kernel
theorem dX12_weightOf_27 : decode cX12_weightOf 27 = .ok (.aload_n 0, 1) := by decide +kernel
theorem dX12_weightOf_28 : decode cX12_weightOf 28 = .ok (.getfield 34, 3) := by decide +kernel
theorem dX12_weightOf_31 : decode cX12_weightOf 31 = .ok (.iconst 1, 1) := by decide +kernel
theorem dX12_weightOf_32 : decode cX12_weightOf 32 = .ok (.aload_n 0, 1) := by decide +kernel
theorem dX12_weightOf_33 : decode cX12_weightOf 33 = .ok (.getfield 43, 3) := by decide +kernel
theorem dX12_weightOf_36 : decode cX12_weightOf 36 = .ok (.iload_n 1, 1) := by decide +kernel
theorem dX12_weightOf_37 : decode cX12_weightOf 37 = .ok (.iaload, 1) := by decide +kernel
theorem dX12_weightOf_38 : decode cX12_weightOf 38 = .ok (.iastore, 1) := by decide +kernel
theorem dX12_weightOf_39 : decode cX12_weightOf 39 = .ok (.aload_n 0, 1) := by decide +kernel
theorem dX12_weightOf_40 : decode cX12_weightOf 40 = .ok (.getfield 34, 3) := by decide +kernel
theorem dX12_weightOf_43 : decode cX12_weightOf 43 = .ok (.iconst 2, 1) := by decide +kernel
theorem dX12_weightOf_44 : decode cX12_weightOf 44 = .ok (.iload 4, 2) := by decide +kernel
theorem dX12_weightOf_46 : decode cX12_weightOf 46 = .ok (.iconst 1, 1) := by decide +kernel
theorem dX12_weightOf_47 : decode cX12_weightOf 47 = .ok (.invokestatic 250, 3) := by decide +kernel
theorem dX12_weightOf_50 : decode cX12_weightOf 50 = .ok (.iastore, 1) := by decide +kernel
theorem dX12_weightOf_51 : decode cX12_weightOf 51 = .ok (.aload_n 0, 1) := by decide +kernel
theorem dX12_weightOf_52 : decode cX12_weightOf 52 = .ok (.getfield 34, 3) := by decide +kernel
theorem dX12_weightOf_55 : decode cX12_weightOf 55 = .ok (.iconst 3, 1) := by decide +kernel
theorem dX12_weightOf_56 : decode cX12_weightOf 56 = .ok (.iload 4, 2) := by decide +kernel
theorem dX12_weightOf_58 : decode cX12_weightOf 58 = .ok (.iconst 0, 1) := by decide +kernel
theorem dX12_weightOf_59 : decode cX12_weightOf 59 = .ok (.invokestatic 250, 3) := by decide +kernel
theorem dX12_weightOf_62 : decode cX12_weightOf 62 = .ok (.iastore, 1) := by decide +kernel
theorem dX12_weightOf_63 : decode cX12_weightOf 63 = .ok (.bipush (-9), 2) := by decide +kernel
theorem dX12_weightOf_65 : decode cX12_weightOf 65 = .ok (.bipush 9, 2) := by decide +kernel
theorem dX12_weightOf_67 : decode cX12_weightOf 67 = .ok (.aload_n 0, 1) := by decide +kernel
theorem dX12_weightOf_68 : decode cX12_weightOf 68 = .ok (.iload_n 2, 1) := by decide +kernel
theorem dX12_weightOf_69 : decode cX12_weightOf 69 = .ok (.invokevirtual 254, 3) := by decide +kernel
theorem dX12_weightOf_72 : decode cX12_weightOf 72 = .ok (.invokestatic 257, 3) := by decide +kernel
theorem dX12_weightOf_75 : decode cX12_weightOf 75 = .ok (.invokestatic 260, 3) := by decide +kernel
theorem dX12_weightOf_78 : decode cX12_weightOf 78 = .ok (.ireturn, 1) := by decide +kernel
theorem dX12_weight_0 : decode cX12_weight 0 = .ok (.aload_n 0, 1) := by decide +kernel
theorem dX12_weight_1 : decode cX12_weight 1 = .ok (.iload_n 1, 1) := by decide +kernel
theorem dX12_weight_2 : decode cX12_weight 2 = .ok (.invokevirtual 244, 3) := by decide +kernel
theorem dX12_weight_5 : decode cX12_weight 5 = .ok (.ifCond .eq 37, 3) := by decide +kernel
theorem dX12_weight_8 : decode cX12_weight 8 = .ok (.aload_n 0, 1) := by decide +kernel
theorem dX12_weight_9 : decode cX12_weight 9 = .ok (.iload_n 2, 1) := by decide +kernel
theorem dX12_weight_10 : decode cX12_weight 10 = .ok (.invokevirtual 262, 3) := by decide +kernel
theorem dX12_weight_13 : decode cX12_weight 13 = .ok (.ifCond .eq 29, 3) := by decide +kernel
theorem dX12_weight_16 : decode cX12_weight 16 = .ok (.iload_n 3, 1) := by decide +kernel
theorem dX12_weight_17 : decode cX12_weight 17 = .ok (.iconst 0, 1) := by decide +kernel
theorem dX12_weight_18 : decode cX12_weight 18 = .ok (.aload_n 0, 1) := by decide +kernel
theorem dX12_weight_19 : decode cX12_weight 19 = .ok (.getfield 43, 3) := by decide +kernel
theorem dX12_weight_22 : decode cX12_weight 22 = .ok (.iload_n 1, 1) := by decide +kernel
theorem dX12_weight_23 : decode cX12_weight 23 = .ok (.iaload, 1) := by decide +kernel
theorem dX12_weight_24 : decode cX12_weight 24 = .ok (.iconst 1, 1) := by decide +kernel
theorem dX12_weight_25 : decode cX12_weight 25 = .ok (.isub, 1) := by decide +kernel
theorem dX12_weight_26 : decode cX12_weight 26 = .ok (.invokestatic 219, 3) := by decide +kernel
theorem dX12_weight_29 : decode cX12_weight 29 = .ok (.ifCond .eq 13, 3) := by decide +kernel
theorem dX12_weight_32 : decode cX12_weight 32 = .ok (.aload_n 0, 1) := by decide +kernel
theorem dX12_weight_33 : decode cX12_weight 33 = .ok (.iload_n 1, 1) := by decide +kernel
theorem dX12_weight_34 : decode cX12_weight 34 = .ok (.iload_n 2, 1) := by decide +kernel
theorem dX12_weight_35 : decode cX12_weight 35 = .ok (.iload_n 3, 1) := by decide +kernel
theorem dX12_weight_36 : decode cX12_weight 36 = .ok (.invokevirtual 265, 3) := by decide +kernel
theorem dX12_weight_39 : decode cX12_weight 39 = .ok (.goto 6, 3) := by decide +kernel
theorem dX12_weight_42 : decode cX12_weight 42 = .ok (.ldc_w 268, 3) := by decide +kernel
theorem dX12_weight_45 : decode cX12_weight 45 = .ok (.ireturn, 1) := by decide +kernel
theorem dX12_lay_0 : decode cX12_lay 0 = .ok (.iconst 0, 1) := by decide +kernel
theorem dX12_lay_1 : decode cX12_lay 1 = .ok (.istore_n 3, 1) := by decide +kernel
theorem dX12_lay_2 : decode cX12_lay 2 = .ok (.iload_n 3, 1) := by decide +kernel
theorem dX12_lay_3 : decode cX12_lay 3 = .ok (.aload_n 0, 1) := by decide +kernel
theorem dX12_lay_4 : decode cX12_lay 4 = .ok (.getfield 43, 3) := by decide +kernel
theorem dX12_lay_7 : decode cX12_lay 7 = .ok (.iload_n 1, 1) := by decide +kernel
theorem dX12_lay_8 : decode cX12_lay 8 = .ok (.iaload, 1) := by decide +kernel
theorem dX12_lay_9 : decode cX12_lay 9 = .ok (.if_icmp .ge 22, 3) := by decide +kernel
theorem dX12_lay_12 : decode cX12_lay 12 = .ok (.aload_n 0, 1) := by decide +kernel
theorem dX12_lay_13 : decode cX12_lay 13 = .ok (.getfield 52, 3) := by decide +kernel
theorem dX12_lay_16 : decode cX12_lay 16 = .ok (.iload_n 3, 1) := by decide +kernel
theorem dX12_lay_17 : decode cX12_lay 17 = .ok (.aload_n 0, 1) := by decide +kernel
theorem dX12_lay_18 : decode cX12_lay 18 = .ok (.iload_n 1, 1) := by decide +kernel
theorem dX12_lay_19 : decode cX12_lay 19 = .ok (.iload_n 2, 1) := by decide +kernel
theorem dX12_lay_20 : decode cX12_lay 20 = .ok (.iload_n 3, 1) := by decide +kernel
theorem dX12_lay_21 : decode cX12_lay 21 = .ok (.invokevirtual 265, 3) := by decide +kernel
theorem dX12_lay_24 : decode cX12_lay 24 = .ok (.iastore, 1) := by decide +kernel
theorem dX12_lay_25 : decode cX12_lay 25 = .ok (.iinc 3 1, 3) := by decide +kernel
theorem dX12_lay_28 : decode cX12_lay 28 = .ok (.goto (-26), 3) := by decide +kernel
theorem dX12_lay_31 : decode cX12_lay 31 = .ok (.return_, 1) := by decide +kernel
theorem dX12_sum__0 : decode cX12_sum_ 0 = .ok (.aload_n 0, 1) := by decide +kernel
theorem dX12_sum__1 : decode cX12_sum_ 1 = .ok (.iconst 0, 1) := by decide +kernel
theorem dX12_sum__2 : decode cX12_sum_ 2 = .ok (.putfield 269, 3) := by decide +kernel
theorem dX12_sum__5 : decode cX12_sum_ 5 = .ok (.aload_n 0, 1) := by decide +kernel
theorem dX12_sum__6 : decode cX12_sum_ 6 = .ok (.iconst 0, 1) := by decide +kernel
theorem dX12_sum__7 : decode cX12_sum_ 7 = .ok (.putfield 272, 3) := by decide +kernel
theorem dX12_sum__10 : decode cX12_sum_ 10 = .ok (.iconst 0, 1) := by decide +kernel
theorem dX12_sum__11 : decode cX12_sum_ 11 = .ok (.istore 5, 2) := by decide +kernel
theorem dX12_sum__13 : decode cX12_sum_ 13 = .ok (.iload 5, 2) := by decide +kernel
theorem dX12_sum__15 : decode cX12_sum_ 15 = .ok (.aload_n 0, 1) := by decide +kernel
theorem dX12_sum__16 : decode cX12_sum_ 16 = .ok (.getfield 43, 3) := by decide +kernel
theorem dX12_sum__19 : decode cX12_sum_ 19 = .ok (.iload_n 1, 1) := by decide +kernel
theorem dX12_sum__20 : decode cX12_sum_ 20 = .ok (.iaload, 1) := by decide +kernel
theorem dX12_sum__21 : decode cX12_sum_ 21 = .ok (.if_icmp .ge 111, 3) := by decide +kernel
theorem dX12_sum__24 : decode cX12_sum_ 24 = .ok (.iload 5, 2) := by decide +kernel
theorem dX12_sum__26 : decode cX12_sum_ 26 = .ok (.iload_n 3, 1) := by decide +kernel
theorem dX12_sum__27 : decode cX12_sum_ 27 = .ok (.isub, 1) := by decide +kernel
theorem dX12_sum__28 : decode cX12_sum_ 28 = .ok (.istore 6, 2) := by decide +kernel
theorem dX12_sum__30 : decode cX12_sum_ 30 = .ok (.iload 6, 2) := by decide +kernel
theorem dX12_sum__32 : decode cX12_sum_ 32 = .ok (.iconst 0, 1) := by decide +kernel
theorem dX12_sum__33 : decode cX12_sum_ 33 = .ok (.aload_n 0, 1) := by decide +kernel
theorem dX12_sum__34 : decode cX12_sum_ 34 = .ok (.getfield 43, 3) := by decide +kernel
theorem dX12_sum__37 : decode cX12_sum_ 37 = .ok (.iload_n 2, 1) := by decide +kernel
theorem dX12_sum__38 : decode cX12_sum_ 38 = .ok (.iaload, 1) := by decide +kernel
theorem dX12_sum__39 : decode cX12_sum_ 39 = .ok (.iconst 1, 1) := by decide +kernel
theorem dX12_sum__40 : decode cX12_sum_ 40 = .ok (.isub, 1) := by decide +kernel
theorem dX12_sum__41 : decode cX12_sum_ 41 = .ok (.invokestatic 219, 3) := by decide +kernel
theorem dX12_sum__44 : decode cX12_sum_ 44 = .ok (.ifCond .eq 82, 3) := by decide +kernel
theorem dX12_sum__47 : decode cX12_sum_ 47 = .ok (.aload_n 0, 1) := by decide +kernel
theorem dX12_sum__48 : decode cX12_sum_ 48 = .ok (.getfield 40, 3) := by decide +kernel
theorem dX12_sum__51 : decode cX12_sum_ 51 = .ok (.bipush 24, 2) := by decide +kernel
theorem dX12_sum__53 : decode cX12_sum_ 53 = .ok (.iload_n 1, 1) := by decide +kernel
theorem dX12_sum__54 : decode cX12_sum_ 54 = .ok (.imul, 1) := by decide +kernel
theorem dX12_sum__55 : decode cX12_sum_ 55 = .ok (.iload 5, 2) := by decide +kernel
theorem dX12_sum__57 : decode cX12_sum_ 57 = .ok (.iadd, 1) := by decide +kernel
theorem dX12_sum__58 : decode cX12_sum_ 58 = .ok (.iaload, 1) := by decide +kernel
theorem dX12_sum__59 : decode cX12_sum_ 59 = .ok (.iload 4, 2) := by decide +kernel
theorem dX12_sum__61 : decode cX12_sum_ 61 = .ok (.iload 5, 2) := by decide +kernel
theorem dX12_sum__63 : decode cX12_sum_ 63 = .ok (.imul, 1) := by decide +kernel
theorem dX12_sum__64 : decode cX12_sum_ 64 = .ok (.iadd, 1) := by decide +kernel
theorem dX12_sum__65 : decode cX12_sum_ 65 = .ok (.aload_n 0, 1) := by decide +kernel
theorem dX12_sum__66 : decode cX12_sum_ 66 = .ok (.getfield 40, 3) := by decide +kernel
theorem dX12_sum__69 : decode cX12_sum_ 69 = .ok (.bipush 24, 2) := by decide +kernel
theorem dX12_sum__71 : decode cX12_sum_ 71 = .ok (.iload_n 2, 1) := by decide +kernel
theorem dX12_sum__72 : decode cX12_sum_ 72 = .ok (.imul, 1) := by decide +kernel
theorem dX12_sum__73 : decode cX12_sum_ 73 = .ok (.iload 6, 2) := by decide +kernel
theorem dX12_sum__75 : decode cX12_sum_ 75 = .ok (.iadd, 1) := by decide +kernel
theorem dX12_sum__76 : decode cX12_sum_ 76 = .ok (.iaload, 1) := by decide +kernel
theorem dX12_sum__77 : decode cX12_sum_ 77 = .ok (.isub, 1) := by decide +kernel
theorem dX12_sum__78 : decode cX12_sum_ 78 = .ok (.istore 7, 2) := by decide +kernel
theorem dX12_sum__80 : decode cX12_sum_ 80 = .ok (.aload_n 0, 1) := by decide +kernel
theorem dX12_sum__81 : decode cX12_sum_ 81 = .ok (.dup, 1) := by decide +kernel
theorem dX12_sum__82 : decode cX12_sum_ 82 = .ok (.getfield 269, 3) := by decide +kernel
theorem dX12_sum__85 : decode cX12_sum_ 85 = .ok (.aload_n 0, 1) := by decide +kernel
theorem dX12_sum__86 : decode cX12_sum_ 86 = .ok (.getfield 52, 3) := by decide +kernel
theorem dX12_sum__89 : decode cX12_sum_ 89 = .ok (.iload 6, 2) := by decide +kernel
theorem dX12_sum__91 : decode cX12_sum_ 91 = .ok (.iaload, 1) := by decide +kernel
theorem dX12_sum__92 : decode cX12_sum_ 92 = .ok (.iload 7, 2) := by decide +kernel
theorem dX12_sum__94 : decode cX12_sum_ 94 = .ok (.iconst 1, 1) := by decide +kernel
theorem dX12_sum__95 : decode cX12_sum_ 95 = .ok (.invokestatic 250, 3) := by decide +kernel
theorem dX12_sum__98 : decode cX12_sum_ 98 = .ok (.imul, 1) := by decide +kernel
theorem dX12_sum__99 : decode cX12_sum_ 99 = .ok (.iadd, 1) := by decide +kernel
theorem dX12_sum__100 : decode cX12_sum_ 100 = .ok (.putfield 269, 3) := by decide +kernel
theorem dX12_sum__103 : decode cX12_sum_ 103 = .ok (.aload_n 0, 1) := by decide +kernel
theorem dX12_sum__104 : decode cX12_sum_ 104 = .ok (.dup, 1) := by decide +kernel
theorem dX12_sum__105 : decode cX12_sum_ 105 = .ok (.getfield 272, 3) := by decide +kernel
theorem dX12_sum__108 : decode cX12_sum_ 108 = .ok (.aload_n 0, 1) := by decide +kernel
theorem dX12_sum__109 : decode cX12_sum_ 109 = .ok (.getfield 52, 3) := by decide +kernel
theorem dX12_sum__112 : decode cX12_sum_ 112 = .ok (.iload 6, 2) := by decide +kernel
theorem dX12_sum__114 : decode cX12_sum_ 114 = .ok (.iaload, 1) := by decide +kernel
theorem dX12_sum__115 : decode cX12_sum_ 115 = .ok (.iload 7, 2) := by decide +kernel
theorem dX12_sum__117 : decode cX12_sum_ 117 = .ok (.iconst 0, 1) := by decide +kernel
theorem dX12_sum__118 : decode cX12_sum_ 118 = .ok (.invokestatic 250, 3) := by decide +kernel
theorem dX12_sum__121 : decode cX12_sum_ 121 = .ok (.imul, 1) := by decide +kernel
theorem dX12_sum__122 : decode cX12_sum_ 122 = .ok (.iadd, 1) := by decide +kernel
theorem dX12_sum__123 : decode cX12_sum_ 123 = .ok (.putfield 272, 3) := by decide +kernel
theorem dX12_sum__126 : decode cX12_sum_ 126 = .ok (.iinc 5 1, 3) := by decide +kernel
theorem dX12_sum__129 : decode cX12_sum_ 129 = .ok (.goto (-116), 3) := by decide +kernel
theorem dX12_sum__132 : decode cX12_sum_ 132 = .ok (.aload_n 0, 1) := by decide +kernel
theorem dX12_sum__133 : decode cX12_sum_ 133 = .ok (.aload_n 0, 1) := by decide +kernel
theorem dX12_sum__134 : decode cX12_sum_ 134 = .ok (.getfield 269, 3) := by decide +kernel
theorem dX12_sum__137 : decode cX12_sum_ 137 = .ok (.aload_n 0, 1) := by decide +kernel
theorem dX12_sum__138 : decode cX12_sum_ 138 = .ok (.getfield 269, 3) := by decide +kernel
theorem dX12_sum__141 : decode cX12_sum_ 141 = .ok (.imul, 1) := by decide +kernel
theorem dX12_sum__142 : decode cX12_sum_ 142 = .ok (.aload_n 0, 1) := by decide +kernel
theorem dX12_sum__143 : decode cX12_sum_ 143 = .ok (.getfield 272, 3) := by decide +kernel
theorem dX12_sum__146 : decode cX12_sum_ 146 = .ok (.aload_n 0, 1) := by decide +kernel
theorem dX12_sum__147 : decode cX12_sum_ 147 = .ok (.getfield 272, 3) := by decide +kernel
theorem dX12_sum__150 : decode cX12_sum_ 150 = .ok (.imul, 1) := by decide +kernel
theorem dX12_sum__151 : decode cX12_sum_ 151 = .ok (.iadd, 1) := by decide +kernel
theorem dX12_sum__152 : decode cX12_sum_ 152 = .ok (.putfield 275, 3) := by decide +kernel
theorem dX12_sum__155 : decode cX12_sum_ 155 = .ok (.return_, 1) := by decide +kernel
theorem dX12_comes_0 : decode cX12_comes 0 = .ok (.aload_n 0, 1) := by decide +kernel
theorem dX12_comes_1 : decode cX12_comes 1 = .ok (.iload_n 1, 1) := by decide +kernel
theorem dX12_comes_2 : decode cX12_comes 2 = .ok (.invokevirtual 244, 3) := by decide +kernel
theorem dX12_comes_5 : decode cX12_comes 5 = .ok (.ifCond .eq 51, 3) := by decide +kernel
theorem dX12_comes_8 : decode cX12_comes 8 = .ok (.aload_n 0, 1) := by decide +kernel
theorem dX12_comes_9 : decode cX12_comes 9 = .ok (.iload_n 2, 1) := by decide +kernel
theorem dX12_comes_10 : decode cX12_comes 10 = .ok (.invokevirtual 244, 3) := by decide +kernel
theorem dX12_comes_13 : decode cX12_comes 13 = .ok (.ifCond .eq 43, 3) := by decide +kernel
theorem dX12_comes_16 : decode cX12_comes 16 = .ok (.aload_n 0, 1) := by decide +kernel
theorem dX12_comes_17 : decode cX12_comes 17 = .ok (.iload_n 3, 1) := by decide +kernel
theorem dX12_comes_18 : decode cX12_comes 18 = .ok (.invokevirtual 262, 3) := by decide +kernel
theorem dX12_comes_21 : decode cX12_comes 21 = .ok (.ifCond .eq 35, 3) := by decide +kernel
theorem dX12_comes_24 : decode cX12_comes 24 = .ok (.iload 4, 2) := by decide +kernel
theorem dX12_comes_26 : decode cX12_comes 26 = .ok (.bipush (-23), 2) := by decide +kernel
theorem dX12_comes_28 : decode cX12_comes 28 = .ok (.bipush 23, 2) := by decide +kernel
theorem dX12_comes_30 : decode cX12_comes 30 = .ok (.invokestatic 219, 3) := by decide +kernel
theorem dX12_comes_33 : decode cX12_comes 33 = .ok (.ifCond .eq 23, 3) := by decide +kernel
theorem dX12_comes_36 : decode cX12_comes 36 = .ok (.iload 5, 2) := by decide +kernel
theorem dX12_comes_38 : decode cX12_comes 38 = .ok (.iconst 0, 1) := by decide +kernel
theorem dX12_comes_39 : decode cX12_comes 39 = .ok (.iconst 3, 1) := by decide +kernel
theorem dX12_comes_40 : decode cX12_comes 40 = .ok (.invokestatic 219, 3) := by decide +kernel
theorem dX12_comes_43 : decode cX12_comes 43 = .ok (.ifCond .eq 13, 3) := by decide +kernel
theorem dX12_comes_46 : decode cX12_comes 46 = .ok (.iload 6, 2) := by decide +kernel
theorem dX12_comes_48 : decode cX12_comes 48 = .ok (.iconst 0, 1) := by decide +kernel
theorem dX12_comes_49 : decode cX12_comes 49 = .ok (.iconst 2, 1) := by decide +kernel
theorem dX12_comes_50 : decode cX12_comes 50 = .ok (.invokestatic 219, 3) := by decide +kernel
theorem dX12_comes_53 : decode cX12_comes 53 = .ok (.ifCond .ne 7, 3) := by decide +kernel
theorem dX12_comes_56 : decode cX12_comes 56 = .ok (.ldc_w 268, 3) := by decide +kernel
theorem dX12_comes_59 : decode cX12_comes 59 = .ok (.ireturn, 1) := by decide +kernel
theorem dX12_comes_60 : decode cX12_comes 60 = .ok (.aload_n 0, 1) := by decide +kernel
theorem dX12_comes_61 : decode cX12_comes 61 = .ok (.iload_n 2, 1) := by decide +kernel
theorem dX12_comes_62 : decode cX12_comes 62 = .ok (.iload_n 3, 1) := by decide +kernel
theorem dX12_comes_63 : decode cX12_comes 63 = .ok (.invokevirtual 278, 3) := by decide +kernel
theorem dX12_comes_66 : decode cX12_comes 66 = .ok (.aload_n 0, 1) := by decide +kernel
theorem dX12_comes_67 : decode cX12_comes 67 = .ok (.iload_n 1, 1) := by decide +kernel
theorem dX12_comes_68 : decode cX12_comes 68 = .ok (.iload_n 2, 1) := by decide +kernel
theorem dX12_comes_69 : decode cX12_comes 69 = .ok (.iload 4, 2) := by decide +kernel
theorem dX12_comes_71 : decode cX12_comes 71 = .ok (.iload 5, 2) := by decide +kernel
theorem dX12_comes_73 : decode cX12_comes 73 = .ok (.invokevirtual 281, 3) := by decide +kernel
theorem dX12_comes_76 : decode cX12_comes 76 = .ok (.iload 6, 2) := by decide +kernel
theorem dX12_comes_78 : decode cX12_comes 78 = .ok (.ifCond .ne 10, 3) := by decide +kernel
theorem dX12_comes_81 : decode cX12_comes 81 = .ok (.aload_n 0, 1) := by decide +kernel
theorem dX12_comes_82 : decode cX12_comes 82 = .ok (.getfield 269, 3) := by decide +kernel
theorem dX12_comes_85 : decode cX12_comes 85 = .ok (.goto 20, 3) := by decide +kernel
theorem dX12_comes_88 : decode cX12_comes 88 = .ok (.iload 6, 2) := by decide +kernel
theorem dX12_comes_90 : decode cX12_comes 90 = .ok (.iconst 1, 1) := by decide +kernel
theorem dX12_comes_91 : decode cX12_comes 91 = .ok (.if_icmp .ne 10, 3) := by decide +kernel
theorem dX12_comes_94 : decode cX12_comes 94 = .ok (.aload_n 0, 1) := by decide +kernel
theorem dX12_comes_95 : decode cX12_comes 95 = .ok (.getfield 272, 3) := by decide +kernel
theorem dX12_comes_98 : decode cX12_comes 98 = .ok (.goto 7, 3) := by decide +kernel
theorem dX12_comes_101 : decode cX12_comes 101 = .ok (.aload_n 0, 1) := by decide +kernel
theorem dX12_comes_102 : decode cX12_comes 102 = .ok (.getfield 275, 3) := by decide +kernel
theorem dX12_comes_105 : decode cX12_comes 105 = .ok (.ireturn, 1) := by decide +kernel
theorem dX12_lobesOf_0 : decode cX12_lobesOf 0 = .ok (.iconst 0, 1) := by decide +kernel
theorem dX12_lobesOf_1 : decode cX12_lobesOf 1 = .ok (.istore_n 2, 1) := by decide +kernel
theorem dX12_lobesOf_2 : decode cX12_lobesOf 2 = .ok (.iconst 0, 1) := by decide +kernel
theorem dX12_lobesOf_3 : decode cX12_lobesOf 3 = .ok (.istore_n 3, 1) := by decide +kernel
theorem dX12_lobesOf_4 : decode cX12_lobesOf 4 = .ok (.iload_n 3, 1) := by decide +kernel
theorem dX12_lobesOf_5 : decode cX12_lobesOf 5 = .ok (.aload_n 0, 1) := by decide +kernel
theorem dX12_lobesOf_6 : decode cX12_lobesOf 6 = .ok (.getfield 43, 3) := by decide +kernel
theorem dX12_lobesOf_9 : decode cX12_lobesOf 9 = .ok (.iload_n 1, 1) := by decide +kernel
theorem dX12_lobesOf_10 : decode cX12_lobesOf 10 = .ok (.iaload, 1) := by decide +kernel
theorem dX12_lobesOf_11 : decode cX12_lobesOf 11 = .ok (.if_icmp .ge 25, 3) := by decide +kernel
theorem dX12_lobesOf_14 : decode cX12_lobesOf 14 = .ok (.iload_n 2, 1) := by decide +kernel
theorem dX12_lobesOf_15 : decode cX12_lobesOf 15 = .ok (.aload_n 0, 1) := by decide +kernel
theorem dX12_lobesOf_16 : decode cX12_lobesOf 16 = .ok (.getfield 52, 3) := by decide +kernel
theorem dX12_lobesOf_19 : decode cX12_lobesOf 19 = .ok (.iload_n 3, 1) := by decide +kernel
theorem dX12_lobesOf_20 : decode cX12_lobesOf 20 = .ok (.iaload, 1) := by decide +kernel
theorem dX12_lobesOf_21 : decode cX12_lobesOf 21 = .ok (.aload_n 0, 1) := by decide +kernel
theorem dX12_lobesOf_22 : decode cX12_lobesOf 22 = .ok (.getfield 52, 3) := by decide +kernel
theorem dX12_lobesOf_25 : decode cX12_lobesOf 25 = .ok (.iload_n 3, 1) := by decide +kernel
theorem dX12_lobesOf_26 : decode cX12_lobesOf 26 = .ok (.iaload, 1) := by decide +kernel
theorem dX12_lobesOf_27 : decode cX12_lobesOf 27 = .ok (.imul, 1) := by decide +kernel
theorem dX12_lobesOf_28 : decode cX12_lobesOf 28 = .ok (.iadd, 1) := by decide +kernel
theorem dX12_lobesOf_29 : decode cX12_lobesOf 29 = .ok (.istore_n 2, 1) := by decide +kernel
theorem dX12_lobesOf_30 : decode cX12_lobesOf 30 = .ok (.iinc 3 1, 3) := by decide +kernel
theorem dX12_lobesOf_33 : decode cX12_lobesOf 33 = .ok (.goto (-29), 3) := by decide +kernel
theorem dX12_lobesOf_36 : decode cX12_lobesOf 36 = .ok (.aload_n 0, 1) := by decide +kernel
theorem dX12_lobesOf_37 : decode cX12_lobesOf 37 = .ok (.iconst 0, 1) := by decide +kernel
theorem dX12_lobesOf_38 : decode cX12_lobesOf 38 = .ok (.putfield 284, 3) := by decide +kernel
theorem dX12_lobesOf_41 : decode cX12_lobesOf 41 = .ok (.aload_n 0, 1) := by decide +kernel
theorem dX12_lobesOf_42 : decode cX12_lobesOf 42 = .ok (.iconst 0, 1) := by decide +kernel
theorem dX12_lobesOf_43 : decode cX12_lobesOf 43 = .ok (.putfield 287, 3) := by decide +kernel
theorem dX12_lobesOf_46 : decode cX12_lobesOf 46 = .ok (.aload_n 0, 1) := by decide +kernel
theorem dX12_lobesOf_47 : decode cX12_lobesOf 47 = .ok (.iconst 0, 1) := by decide +kernel
theorem dX12_lobesOf_48 : decode cX12_lobesOf 48 = .ok (.putfield 290, 3) := by decide +kernel
theorem dX12_lobesOf_51 : decode cX12_lobesOf 51 = .ok (.bipush (-23), 2) := by decide +kernel
theorem dX12_lobesOf_53 : decode cX12_lobesOf 53 = .ok (.istore_n 3, 1) := by decide +kernel
theorem dX12_lobesOf_54 : decode cX12_lobesOf 54 = .ok (.iload_n 3, 1) := by decide +kernel
theorem dX12_lobesOf_55 : decode cX12_lobesOf 55 = .ok (.bipush 24, 2) := by decide +kernel
theorem dX12_lobesOf_57 : decode cX12_lobesOf 57 = .ok (.if_icmp .ge 141, 3) := by decide +kernel
theorem dX12_lobesOf_60 : decode cX12_lobesOf 60 = .ok (.iconst 0, 1) := by decide +kernel
theorem dX12_lobesOf_61 : decode cX12_lobesOf 61 = .ok (.istore 4, 2) := by decide +kernel
theorem dX12_lobesOf_63 : decode cX12_lobesOf 63 = .ok (.iload 4, 2) := by decide +kernel
theorem dX12_lobesOf_65 : decode cX12_lobesOf 65 = .ok (.iconst 4, 1) := by decide +kernel
theorem dX12_lobesOf_66 : decode cX12_lobesOf 66 = .ok (.if_icmp .ge 126, 3) := by decide +kernel
theorem dX12_lobesOf_69 : decode cX12_lobesOf 69 = .ok (.aload_n 0, 1) := by decide +kernel
theorem dX12_lobesOf_70 : decode cX12_lobesOf 70 = .ok (.iload_n 1, 1) := by decide +kernel
theorem dX12_lobesOf_71 : decode cX12_lobesOf 71 = .ok (.iload_n 1, 1) := by decide +kernel
theorem dX12_lobesOf_72 : decode cX12_lobesOf 72 = .ok (.iload_n 3, 1) := by decide +kernel
theorem dX12_lobesOf_73 : decode cX12_lobesOf 73 = .ok (.iload 4, 2) := by decide +kernel
theorem dX12_lobesOf_75 : decode cX12_lobesOf 75 = .ok (.invokevirtual 281, 3) := by decide +kernel
theorem dX12_lobesOf_78 : decode cX12_lobesOf 78 = .ok (.aload_n 0, 1) := by decide +kernel
theorem dX12_lobesOf_79 : decode cX12_lobesOf 79 = .ok (.iload_n 3, 1) := by decide +kernel
theorem dX12_lobesOf_80 : decode cX12_lobesOf 80 = .ok (.ifCond .ne 15, 3) := by decide +kernel
theorem dX12_lobesOf_83 : decode cX12_lobesOf 83 = .ok (.iload 4, 2) := by decide +kernel
theorem dX12_lobesOf_85 : decode cX12_lobesOf 85 = .ok (.ifCond .ne 10, 3) := by decide +kernel
theorem dX12_lobesOf_88 : decode cX12_lobesOf 88 = .ok (.aload_n 0, 1) := by decide +kernel
theorem dX12_lobesOf_89 : decode cX12_lobesOf 89 = .ok (.getfield 275, 3) := by decide +kernel
theorem dX12_lobesOf_92 : decode cX12_lobesOf 92 = .ok (.goto 7, 3) := by decide +kernel
theorem dX12_lobesOf_95 : decode cX12_lobesOf 95 = .ok (.aload_n 0, 1) := by decide +kernel
theorem dX12_lobesOf_96 : decode cX12_lobesOf 96 = .ok (.getfield 293, 3) := by decide +kernel
theorem dX12_lobesOf_99 : decode cX12_lobesOf 99 = .ok (.putfield 293, 3) := by decide +kernel
theorem dX12_lobesOf_102 : decode cX12_lobesOf 102 = .ok (.aload_n 0, 1) := by decide +kernel
theorem dX12_lobesOf_103 : decode cX12_lobesOf 103 = .ok (.iload_n 3, 1) := by decide +kernel
theorem dX12_lobesOf_104 : decode cX12_lobesOf 104 = .ok (.ifCond .eq 22, 3) := by decide +kernel
theorem dX12_lobesOf_107 : decode cX12_lobesOf 107 = .ok (.iload 4, 2) := by decide +kernel
theorem dX12_lobesOf_109 : decode cX12_lobesOf 109 = .ok (.ifCond .ne 17, 3) := by decide +kernel
theorem dX12_lobesOf_112 : decode cX12_lobesOf 112 = .ok (.aload_n 0, 1) := by decide +kernel
theorem dX12_lobesOf_113 : decode cX12_lobesOf 113 = .ok (.getfield 284, 3) := by decide +kernel
theorem dX12_lobesOf_116 : decode cX12_lobesOf 116 = .ok (.aload_n 0, 1) := by decide +kernel
theorem dX12_lobesOf_117 : decode cX12_lobesOf 117 = .ok (.getfield 275, 3) := by decide +kernel
theorem dX12_lobesOf_120 : decode cX12_lobesOf 120 = .ok (.invokestatic 260, 3) := by decide +kernel
theorem dX12_lobesOf_123 : decode cX12_lobesOf 123 = .ok (.goto 7, 3) := by decide +kernel
theorem dX12_lobesOf_126 : decode cX12_lobesOf 126 = .ok (.aload_n 0, 1) := by decide +kernel
theorem dX12_lobesOf_127 : decode cX12_lobesOf 127 = .ok (.getfield 284, 3) := by decide +kernel
theorem dX12_lobesOf_130 : decode cX12_lobesOf 130 = .ok (.putfield 284, 3) := by decide +kernel
theorem dX12_lobesOf_133 : decode cX12_lobesOf 133 = .ok (.aload_n 0, 1) := by decide +kernel
theorem dX12_lobesOf_134 : decode cX12_lobesOf 134 = .ok (.dup, 1) := by decide +kernel
theorem dX12_lobesOf_135 : decode cX12_lobesOf 135 = .ok (.getfield 287, 3) := by decide +kernel
theorem dX12_lobesOf_138 : decode cX12_lobesOf 138 = .ok (.iload_n 3, 1) := by decide +kernel
theorem dX12_lobesOf_139 : decode cX12_lobesOf 139 = .ok (.ifCond .eq 15, 3) := by decide +kernel
theorem dX12_lobesOf_142 : decode cX12_lobesOf 142 = .ok (.iload 4, 2) := by decide +kernel
theorem dX12_lobesOf_144 : decode cX12_lobesOf 144 = .ok (.ifCond .ne 10, 3) := by decide +kernel
theorem dX12_lobesOf_147 : decode cX12_lobesOf 147 = .ok (.aload_n 0, 1) := by decide +kernel
theorem dX12_lobesOf_148 : decode cX12_lobesOf 148 = .ok (.getfield 275, 3) := by decide +kernel
theorem dX12_lobesOf_151 : decode cX12_lobesOf 151 = .ok (.goto 4, 3) := by decide +kernel
theorem dX12_lobesOf_154 : decode cX12_lobesOf 154 = .ok (.iconst 0, 1) := by decide +kernel
theorem dX12_lobesOf_155 : decode cX12_lobesOf 155 = .ok (.iadd, 1) := by decide +kernel
theorem dX12_lobesOf_156 : decode cX12_lobesOf 156 = .ok (.putfield 287, 3) := by decide +kernel
theorem dX12_lobesOf_159 : decode cX12_lobesOf 159 = .ok (.aload_n 0, 1) := by decide +kernel
theorem dX12_lobesOf_160 : decode cX12_lobesOf 160 = .ok (.iload 4, 2) := by decide +kernel
theorem dX12_lobesOf_162 : decode cX12_lobesOf 162 = .ok (.ifCond .le 17, 3) := by decide +kernel
theorem dX12_lobesOf_165 : decode cX12_lobesOf 165 = .ok (.aload_n 0, 1) := by decide +kernel
theorem dX12_lobesOf_166 : decode cX12_lobesOf 166 = .ok (.getfield 290, 3) := by decide +kernel
theorem dX12_lobesOf_169 : decode cX12_lobesOf 169 = .ok (.aload_n 0, 1) := by decide +kernel
theorem dX12_lobesOf_170 : decode cX12_lobesOf 170 = .ok (.getfield 275, 3) := by decide +kernel
theorem dX12_lobesOf_173 : decode cX12_lobesOf 173 = .ok (.invokestatic 260, 3) := by decide +kernel
theorem dX12_lobesOf_176 : decode cX12_lobesOf 176 = .ok (.goto 7, 3) := by decide +kernel
theorem dX12_lobesOf_179 : decode cX12_lobesOf 179 = .ok (.aload_n 0, 1) := by decide +kernel
theorem dX12_lobesOf_180 : decode cX12_lobesOf 180 = .ok (.getfield 290, 3) := by decide +kernel
theorem dX12_lobesOf_183 : decode cX12_lobesOf 183 = .ok (.putfield 290, 3) := by decide +kernel
theorem dX12_lobesOf_186 : decode cX12_lobesOf 186 = .ok (.iinc 4 1, 3) := by decide +kernel
theorem dX12_lobesOf_189 : decode cX12_lobesOf 189 = .ok (.goto (-126), 3) := by decide +kernel
theorem dX12_lobesOf_192 : decode cX12_lobesOf 192 = .ok (.iinc 3 1, 3) := by decide +kernel
theorem dX12_lobesOf_195 : decode cX12_lobesOf 195 = .ok (.goto (-141), 3) := by decide +kernel
theorem dX12_lobesOf_198 : decode cX12_lobesOf 198 = .ok (.aload_n 0, 1) := by decide +kernel
theorem dX12_lobesOf_199 : decode cX12_lobesOf 199 = .ok (.iload_n 2, 1) := by decide +kernel
theorem dX12_lobesOf_200 : decode cX12_lobesOf 200 = .ok (.ifCond .ne 7, 3) := by decide +kernel
theorem dX12_lobesOf_203 : decode cX12_lobesOf 203 = .ok (.iconst 0, 1) := by decide +kernel
theorem dX12_lobesOf_204 : decode cX12_lobesOf 204 = .ok (.goto 24, 3) := by decide +kernel
theorem dX12_lobesOf_207 : decode cX12_lobesOf 207 = .ok (.ldc2_w 193, 3) := by decide +kernel
theorem dX12_lobesOf_210 : decode cX12_lobesOf 210 = .ok (.aload_n 0, 1) := by decide +kernel
theorem dX12_lobesOf_211 : decode cX12_lobesOf 211 = .ok (.getfield 293, 3) := by decide +kernel
theorem dX12_lobesOf_214 : decode cX12_lobesOf 214 = .ok (.i2l, 1) := by decide +kernel
theorem dX12_lobesOf_215 : decode cX12_lobesOf 215 = .ok (.lmul, 1) := by decide +kernel
theorem dX12_lobesOf_216 : decode cX12_lobesOf 216 = .ok (.aload_n 0, 1) := by decide +kernel
theorem dX12_lobesOf_217 : decode cX12_lobesOf 217 = .ok (.getfield 43, 3) := by decide +kernel
theorem dX12_lobesOf_220 : decode cX12_lobesOf 220 = .ok (.iload_n 1, 1) := by decide +kernel
theorem dX12_lobesOf_221 : decode cX12_lobesOf 221 = .ok (.iaload, 1) := by decide +kernel
theorem dX12_lobesOf_222 : decode cX12_lobesOf 222 = .ok (.i2l, 1) := by decide +kernel
theorem dX12_lobesOf_223 : decode cX12_lobesOf 223 = .ok (.iload_n 2, 1) := by decide +kernel
theorem dX12_lobesOf_224 : decode cX12_lobesOf 224 = .ok (.i2l, 1) := by decide +kernel
theorem dX12_lobesOf_225 : decode cX12_lobesOf 225 = .ok (.lmul, 1) := by decide +kernel
theorem dX12_lobesOf_226 : decode cX12_lobesOf 226 = .ok (.ldiv, 1) := by decide +kernel
theorem dX12_lobesOf_227 : decode cX12_lobesOf 227 = .ok (.l2i, 1) := by decide +kernel
theorem dX12_lobesOf_228 : decode cX12_lobesOf 228 = .ok (.putfield 296, 3) := by decide +kernel
theorem dX12_lobesOf_231 : decode cX12_lobesOf 231 = .ok (.return_, 1) := by decide +kernel
theorem dX12_lobes_0 : decode cX12_lobes 0 = .ok (.aload_n 0, 1) := by decide +kernel
theorem dX12_lobes_1 : decode cX12_lobes 1 = .ok (.iload_n 1, 1) := by decide +kernel
theorem dX12_lobes_2 : decode cX12_lobes 2 = .ok (.invokevirtual 244, 3) := by decide +kernel
theorem dX12_lobes_5 : decode cX12_lobes 5 = .ok (.ifCond .eq 20, 3) := by decide +kernel
theorem dX12_lobes_8 : decode cX12_lobes 8 = .ok (.aload_n 0, 1) := by decide +kernel
theorem dX12_lobes_9 : decode cX12_lobes 9 = .ok (.iload_n 2, 1) := by decide +kernel
theorem dX12_lobes_10 : decode cX12_lobes 10 = .ok (.invokevirtual 262, 3) := by decide +kernel
theorem dX12_lobes_13 : decode cX12_lobes 13 = .ok (.ifCond .eq 12, 3) := by decide +kernel
theorem dX12_lobes_16 : decode cX12_lobes 16 = .ok (.iload_n 3, 1) := by decide +kernel
theorem dX12_lobes_17 : decode cX12_lobes 17 = .ok (.iconst 0, 1) := by decide +kernel
theorem dX12_lobes_18 : decode cX12_lobes 18 = .ok (.iconst 4, 1) := by decide +kernel
theorem dX12_lobes_19 : decode cX12_lobes 19 = .ok (.invokestatic 219, 3) := by decide +kernel
theorem dX12_lobes_22 : decode cX12_lobes 22 = .ok (.ifCond .ne 5, 3) := by decide +kernel
theorem dX12_lobes_25 : decode cX12_lobes 25 = .ok (.iconst (-1), 1) := by decide +kernel
theorem dX12_lobes_26 : decode cX12_lobes 26 = .ok (.ireturn, 1) := by decide +kernel
theorem dX12_lobes_27 : decode cX12_lobes 27 = .ok (.aload_n 0, 1) := by decide +kernel
theorem dX12_lobes_28 : decode cX12_lobes 28 = .ok (.iload_n 1, 1) := by decide +kernel
theorem dX12_lobes_29 : decode cX12_lobes 29 = .ok (.iload_n 2, 1) := by decide +kernel
theorem dX12_lobes_30 : decode cX12_lobes 30 = .ok (.invokevirtual 278, 3) := by decide +kernel
theorem dX12_lobes_33 : decode cX12_lobes 33 = .ok (.aload_n 0, 1) := by decide +kernel
theorem dX12_lobes_34 : decode cX12_lobes 34 = .ok (.iload_n 1, 1) := by decide +kernel
theorem dX12_lobes_35 : decode cX12_lobes 35 = .ok (.invokevirtual 299, 3) := by decide +kernel
theorem dX12_lobes_38 : decode cX12_lobes 38 = .ok (.iload_n 3, 1) := by decide +kernel
theorem dX12_lobes_39 : decode cX12_lobes 39 = .ok (.ifCond .ne 10, 3) := by decide +kernel
theorem dX12_lobes_42 : decode cX12_lobes 42 = .ok (.aload_n 0, 1) := by decide +kernel
theorem dX12_lobes_43 : decode cX12_lobes 43 = .ok (.getfield 293, 3) := by decide +kernel
theorem dX12_lobes_46 : decode cX12_lobes 46 = .ok (.goto 43, 3) := by decide +kernel
theorem dX12_lobes_49 : decode cX12_lobes 49 = .ok (.iload_n 3, 1) := by decide +kernel
theorem dX12_lobes_50 : decode cX12_lobes 50 = .ok (.iconst 1, 1) := by decide +kernel
theorem dX12_lobes_51 : decode cX12_lobes 51 = .ok (.if_icmp .ne 10, 3) := by decide +kernel
theorem dX12_lobes_54 : decode cX12_lobes 54 = .ok (.aload_n 0, 1) := by decide +kernel
theorem dX12_lobes_55 : decode cX12_lobes 55 = .ok (.getfield 284, 3) := by decide +kernel
theorem dX12_lobes_58 : decode cX12_lobes 58 = .ok (.goto 31, 3) := by decide +kernel
theorem dX12_lobes_61 : decode cX12_lobes 61 = .ok (.iload_n 3, 1) := by decide +kernel
theorem dX12_lobes_62 : decode cX12_lobes 62 = .ok (.iconst 2, 1) := by decide +kernel
theorem dX12_lobes_63 : decode cX12_lobes 63 = .ok (.if_icmp .ne 10, 3) := by decide +kernel
theorem dX12_lobes_66 : decode cX12_lobes 66 = .ok (.aload_n 0, 1) := by decide +kernel
theorem dX12_lobes_67 : decode cX12_lobes 67 = .ok (.getfield 287, 3) := by decide +kernel
theorem dX12_lobes_70 : decode cX12_lobes 70 = .ok (.goto 19, 3) := by decide +kernel
theorem dX12_lobes_73 : decode cX12_lobes 73 = .ok (.iload_n 3, 1) := by decide +kernel
theorem dX12_lobes_74 : decode cX12_lobes 74 = .ok (.iconst 3, 1) := by decide +kernel
theorem dX12_lobes_75 : decode cX12_lobes 75 = .ok (.if_icmp .ne 10, 3) := by decide +kernel
theorem dX12_lobes_78 : decode cX12_lobes 78 = .ok (.aload_n 0, 1) := by decide +kernel
theorem dX12_lobes_79 : decode cX12_lobes 79 = .ok (.getfield 290, 3) := by decide +kernel
theorem dX12_lobes_82 : decode cX12_lobes 82 = .ok (.goto 7, 3) := by decide +kernel
theorem dX12_lobes_85 : decode cX12_lobes 85 = .ok (.aload_n 0, 1) := by decide +kernel
theorem dX12_lobes_86 : decode cX12_lobes 86 = .ok (.getfield 296, 3) := by decide +kernel
theorem dX12_lobes_89 : decode cX12_lobes 89 = .ok (.ireturn, 1) := by decide +kernel
theorem dX12_hinderOf_0 : decode cX12_hinderOf 0 = .ok (.aload_n 0, 1) := by decide +kernel
theorem dX12_hinderOf_1 : decode cX12_hinderOf 1 = .ok (.iload_n 2, 1) := by decide +kernel
theorem dX12_hinderOf_2 : decode cX12_hinderOf 2 = .ok (.iconst (-1), 1) := by decide +kernel
theorem dX12_hinderOf_3 : decode cX12_hinderOf 3 = .ok (.invokevirtual 278, 3) := by decide +kernel
theorem dX12_hinderOf_6 : decode cX12_hinderOf 6 = .ok (.iconst 0, 1) := by decide +kernel
theorem dX12_hinderOf_7 : decode cX12_hinderOf 7 = .ok (.istore_n 3, 1) := by decide +kernel
theorem dX12_hinderOf_8 : decode cX12_hinderOf 8 = .ok (.bipush (-23), 2) := by decide +kernel
theorem dX12_hinderOf_10 : decode cX12_hinderOf 10 = .ok (.istore 4, 2) := by decide +kernel
theorem dX12_hinderOf_12 : decode cX12_hinderOf 12 = .ok (.iload 4, 2) := by decide +kernel
theorem dX12_hinderOf_14 : decode cX12_hinderOf 14 = .ok (.bipush 24, 2) := by decide +kernel
theorem dX12_hinderOf_16 : decode cX12_hinderOf 16 = .ok (.if_icmp .ge 27, 3) := by decide +kernel
theorem dX12_hinderOf_19 : decode cX12_hinderOf 19 = .ok (.aload_n 0, 1) := by decide +kernel
theorem dX12_hinderOf_20 : decode cX12_hinderOf 20 = .ok (.iload_n 1, 1) := by decide +kernel
theorem dX12_hinderOf_21 : decode cX12_hinderOf 21 = .ok (.iload_n 2, 1) := by decide +kernel
theorem dX12_hinderOf_22 : decode cX12_hinderOf 22 = .ok (.iload 4, 2) := by decide +kernel
theorem dX12_hinderOf_24 : decode cX12_hinderOf 24 = .ok (.iconst 0, 1) := by decide +kernel
theorem dX12_hinderOf_25 : decode cX12_hinderOf 25 = .ok (.invokevirtual 281, 3) := by decide +kernel
theorem dX12_hinderOf_28 : decode cX12_hinderOf 28 = .ok (.iload_n 3, 1) := by decide +kernel
theorem dX12_hinderOf_29 : decode cX12_hinderOf 29 = .ok (.aload_n 0, 1) := by decide +kernel
theorem dX12_hinderOf_30 : decode cX12_hinderOf 30 = .ok (.getfield 275, 3) := by decide +kernel
theorem dX12_hinderOf_33 : decode cX12_hinderOf 33 = .ok (.invokestatic 260, 3) := by decide +kernel
theorem dX12_hinderOf_36 : decode cX12_hinderOf 36 = .ok (.istore_n 3, 1) := by decide +kernel
theorem dX12_hinderOf_37 : decode cX12_hinderOf 37 = .ok (.iinc 4 1, 3) := by decide +kernel
theorem dX12_hinderOf_40 : decode cX12_hinderOf 40 = .ok (.goto (-28), 3) := by decide +kernel
theorem dX12_hinderOf_43 : decode cX12_hinderOf 43 = .ok (.iload_n 3, 1) := by decide +kernel
theorem dX12_hinderOf_44 : decode cX12_hinderOf 44 = .ok (.ireturn, 1) := by decide +kernel
theorem dX12_hinder_0 : decode cX12_hinder 0 = .ok (.aload_n 0, 1) := by decide +kernel
theorem dX12_hinder_1 : decode cX12_hinder 1 = .ok (.iload_n 1, 1) := by decide +kernel
theorem dX12_hinder_2 : decode cX12_hinder 2 = .ok (.invokevirtual 244, 3) := by decide +kernel
theorem dX12_hinder_5 : decode cX12_hinder 5 = .ok (.ifCond .eq 20, 3) := by decide +kernel
theorem dX12_hinder_8 : decode cX12_hinder 8 = .ok (.aload_n 0, 1) := by decide +kernel
theorem dX12_hinder_9 : decode cX12_hinder 9 = .ok (.iload_n 2, 1) := by decide +kernel
theorem dX12_hinder_10 : decode cX12_hinder 10 = .ok (.invokevirtual 244, 3) := by decide +kernel
theorem dX12_hinder_13 : decode cX12_hinder 13 = .ok (.ifCond .eq 12, 3) := by decide +kernel
theorem dX12_hinder_16 : decode cX12_hinder 16 = .ok (.aload_n 0, 1) := by decide +kernel
theorem dX12_hinder_17 : decode cX12_hinder 17 = .ok (.iload_n 1, 1) := by decide +kernel
theorem dX12_hinder_18 : decode cX12_hinder 18 = .ok (.iload_n 2, 1) := by decide +kernel
theorem dX12_hinder_19 : decode cX12_hinder 19 = .ok (.invokevirtual 302, 3) := by decide +kernel
theorem dX12_hinder_22 : decode cX12_hinder 22 = .ok (.goto 4, 3) := by decide +kernel
theorem dX12_hinder_25 : decode cX12_hinder 25 = .ok (.iconst (-1), 1) := by decide +kernel
theorem dX12_hinder_26 : decode cX12_hinder 26 = .ok (.ireturn, 1) := by decide +kernel
theorem dX12_friends_0 : decode cX12_friends 0 = .ok (.aload_n 0, 1) := by decide +kernel
theorem dX12_friends_1 : decode cX12_friends 1 = .ok (.getfield 235, 3) := by decide +kernel
theorem dX12_friends_4 : decode cX12_friends 4 = .ok (.ifCond .eq 7, 3) := by decide +kernel
theorem dX12_friends_7 : decode cX12_friends 7 = .ok (.iload_n 1, 1) := by decide +kernel
theorem dX12_friends_8 : decode cX12_friends 8 = .ok (.ifCond .ge 5, 3) := by decide +kernel
theorem dX12_friends_11 : decode cX12_friends 11 = .ok (.iconst (-1), 1) := by decide +kernel
theorem dX12_friends_12 : decode cX12_friends 12 = .ok (.ireturn, 1) := by decide +kernel
theorem dX12_friends_13 : decode cX12_friends 13 = .ok (.iconst 0, 1) := by decide +kernel
theorem dX12_friends_14 : decode cX12_friends 14 = .ok (.istore_n 2, 1) := by decide +kernel
theorem dX12_friends_15 : decode cX12_friends 15 = .ok (.iconst 1, 1) := by decide +kernel
theorem dX12_friends_16 : decode cX12_friends 16 = .ok (.istore_n 3, 1) := by decide +kernel
theorem dX12_friends_17 : decode cX12_friends 17 = .ok (.iload_n 3, 1) := by decide +kernel
theorem dX12_friends_18 : decode cX12_friends 18 = .ok (.iconst 1, 1) := by decide +kernel
theorem dX12_friends_19 : decode cX12_friends 19 = .ok (.aload_n 0, 1) := by decide +kernel
theorem dX12_friends_20 : decode cX12_friends 20 = .ok (.getfield 235, 3) := by decide +kernel
theorem dX12_friends_23 : decode cX12_friends 23 = .ok (.ishl, 1) := by decide +kernel
theorem dX12_friends_24 : decode cX12_friends 24 = .ok (.if_icmp .ge 31, 3) := by decide +kernel
theorem dX12_friends_27 : decode cX12_friends 27 = .ok (.iload_n 3, 1) := by decide +kernel
theorem dX12_friends_28 : decode cX12_friends 28 = .ok (.invokestatic 305, 3) := by decide +kernel
theorem dX12_friends_31 : decode cX12_friends 31 = .ok (.iload_n 2, 1) := by decide +kernel
theorem dX12_friends_32 : decode cX12_friends 32 = .ok (.invokestatic 305, 3) := by decide +kernel
theorem dX12_friends_35 : decode cX12_friends 35 = .ok (.if_icmp .le 14, 3) := by decide +kernel
theorem dX12_friends_38 : decode cX12_friends 38 = .ok (.aload_n 0, 1) := by decide +kernel
theorem dX12_friends_39 : decode cX12_friends 39 = .ok (.iload_n 3, 1) := by decide +kernel
theorem dX12_friends_40 : decode cX12_friends 40 = .ok (.iload_n 1, 1) := by decide +kernel
theorem dX12_friends_41 : decode cX12_friends 41 = .ok (.invokevirtual 310, 3) := by decide +kernel
theorem dX12_friends_44 : decode cX12_friends 44 = .ok (.ifCond .eq 5, 3) := by decide +kernel
theorem dX12_friends_47 : decode cX12_friends 47 = .ok (.iload_n 3, 1) := by decide +kernel
theorem dX12_friends_48 : decode cX12_friends 48 = .ok (.istore_n 2, 1) := by decide +kernel
theorem dX12_friends_49 : decode cX12_friends 49 = .ok (.iinc 3 1, 3) := by decide +kernel
theorem dX12_friends_52 : decode cX12_friends 52 = .ok (.goto (-35), 3) := by decide +kernel
theorem dX12_friends_55 : decode cX12_friends 55 = .ok (.iload_n 2, 1) := by decide +kernel
theorem dX12_friends_56 : decode cX12_friends 56 = .ok (.ireturn, 1) := by decide +kernel
theorem dX12_areFriends_0 : decode cX12_areFriends 0 = .ok (.iconst 0, 1) := by decide +kernel
theorem dX12_areFriends_1 : decode cX12_areFriends 1 = .ok (.istore_n 3, 1) := by decide +kernel
theorem dX12_areFriends_2 : decode cX12_areFriends 2 = .ok (.iload_n 3, 1) := by decide +kernel
theorem dX12_areFriends_3 : decode cX12_areFriends 3 = .ok (.aload_n 0, 1) := by decide +kernel
theorem dX12_areFriends_4 : decode cX12_areFriends 4 = .ok (.getfield 235, 3) := by decide +kernel
theorem dX12_areFriends_7 : decode cX12_areFriends 7 = .ok (.if_icmp .ge 54, 3) := by decide +kernel
theorem dX12_areFriends_10 : decode cX12_areFriends 10 = .ok (.iconst 0, 1) := by decide +kernel
theorem dX12_areFriends_11 : decode cX12_areFriends 11 = .ok (.istore 4, 2) := by decide +kernel
theorem dX12_areFriends_13 : decode cX12_areFriends 13 = .ok (.iload 4, 2) := by decide +kernel
theorem dX12_areFriends_15 : decode cX12_areFriends 15 = .ok (.iload_n 3, 1) := by decide +kernel
theorem dX12_areFriends_16 : decode cX12_areFriends 16 = .ok (.if_icmp .ge 39, 3) := by decide +kernel
theorem dX12_areFriends_19 : decode cX12_areFriends 19 = .ok (.iload_n 1, 1) := by decide +kernel
theorem dX12_areFriends_20 : decode cX12_areFriends 20 = .ok (.iload_n 3, 1) := by decide +kernel
theorem dX12_areFriends_21 : decode cX12_areFriends 21 = .ok (.invokestatic 314, 3) := by decide +kernel
