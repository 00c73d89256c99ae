theorem dX12_areFriends_24 : decode cX12_areFriends 24 = .ok (.ifCond .eq 25, 3) := by decide +kernel
theorem dX12_areFriends_27 : decode cX12_areFriends 27 = .ok (.iload_n 1, 1) := by decide +kernel
theorem dX12_areFriends_28 : decode cX12_areFriends 28 = .ok (.iload 4, 2) := by decide +kernel
theorem dX12_areFriends_30 : decode cX12_areFriends 30 = .ok (.invokestatic 314, 3) := by decide +kernel
theorem dX12_areFriends_33 : decode cX12_areFriends 33 = .ok (.ifCond .eq 16, 3) := by decide +kernel
theorem dX12_areFriends_36 : decode cX12_areFriends 36 = .ok (.aload_n 0, 1) := by decide +kernel
theorem dX12_areFriends_37 : decode cX12_areFriends 37 = .ok (.iload_n 3, 1) := by decide +kernel
theorem dX12_areFriends_38 : decode cX12_areFriends 38 = .ok (.iload 4, 2) := by decide +kernel
theorem dX12_areFriends_40 : decode cX12_areFriends 40 = .ok (.invokevirtual 302, 3) := by decide +kernel
theorem dX12_areFriends_43 : decode cX12_areFriends 43 = .ok (.iload_n 2, 1) := by decide +kernel
theorem dX12_areFriends_44 : decode cX12_areFriends 44 = .ok (.if_icmp .le 5, 3) := by decide +kernel
theorem dX12_areFriends_47 : decode cX12_areFriends 47 = .ok (.iconst 0, 1) := by decide +kernel
theorem dX12_areFriends_48 : decode cX12_areFriends 48 = .ok (.ireturn, 1) := by decide +kernel
theorem dX12_areFriends_49 : decode cX12_areFriends 49 = .ok (.iinc 4 1, 3) := by decide +kernel
theorem dX12_areFriends_52 : decode cX12_areFriends 52 = .ok (.goto (-39), 3) := by decide +kernel
theorem dX12_areFriends_55 : decode cX12_areFriends 55 = .ok (.iinc 3 1, 3) := by decide +kernel
theorem dX12_areFriends_58 : decode cX12_areFriends 58 = .ok (.goto (-56), 3) := by decide +kernel
theorem dX12_areFriends_61 : decode cX12_areFriends 61 = .ok (.iconst 1, 1) := by decide +kernel
theorem dX12_areFriends_62 : decode cX12_areFriends 62 = .ok (.ireturn, 1) := by decide +kernel
theorem dX12_alikeAt_0 : decode cX12_alikeAt 0 = .ok (.iconst 0, 1) := by decide +kernel
theorem dX12_alikeAt_1 : decode cX12_alikeAt 1 = .ok (.istore_n 3, 1) := by decide +kernel
theorem dX12_alikeAt_2 : decode cX12_alikeAt 2 = .ok (.iload_n 2, 1) := by decide +kernel
theorem dX12_alikeAt_3 : decode cX12_alikeAt 3 = .ok (.istore 4, 2) := by decide +kernel
theorem dX12_alikeAt_5 : decode cX12_alikeAt 5 = .ok (.iload 4, 2) := by decide +kernel
theorem dX12_alikeAt_7 : decode cX12_alikeAt 7 = .ok (.iload_n 1, 1) := by decide +kernel
theorem dX12_alikeAt_8 : decode cX12_alikeAt 8 = .ok (.if_icmp .ge 34, 3) := by decide +kernel
theorem dX12_alikeAt_11 : decode cX12_alikeAt 11 = .ok (.iload_n 3, 1) := by decide +kernel
theorem dX12_alikeAt_12 : decode cX12_alikeAt 12 = .ok (.iload_n 0, 1) := by decide +kernel
theorem dX12_alikeAt_13 : decode cX12_alikeAt 13 = .ok (.iload 4, 2) := by decide +kernel
theorem dX12_alikeAt_15 : decode cX12_alikeAt 15 = .ok (.invokestatic 314, 3) := by decide +kernel
theorem dX12_alikeAt_18 : decode cX12_alikeAt 18 = .ok (.iload_n 0, 1) := by decide +kernel
theorem dX12_alikeAt_19 : decode cX12_alikeAt 19 = .ok (.iload 4, 2) := by decide +kernel
theorem dX12_alikeAt_21 : decode cX12_alikeAt 21 = .ok (.iload_n 2, 1) := by decide +kernel
theorem dX12_alikeAt_22 : decode cX12_alikeAt 22 = .ok (.isub, 1) := by decide +kernel
theorem dX12_alikeAt_23 : decode cX12_alikeAt 23 = .ok (.invokestatic 314, 3) := by decide +kernel
theorem dX12_alikeAt_26 : decode cX12_alikeAt 26 = .ok (.if_icmp .ne 7, 3) := by decide +kernel
theorem dX12_alikeAt_29 : decode cX12_alikeAt 29 = .ok (.iconst 1, 1) := by decide +kernel
theorem dX12_alikeAt_30 : decode cX12_alikeAt 30 = .ok (.goto 4, 3) := by decide +kernel
theorem dX12_alikeAt_33 : decode cX12_alikeAt 33 = .ok (.iconst (-1), 1) := by decide +kernel
theorem dX12_alikeAt_34 : decode cX12_alikeAt 34 = .ok (.iadd, 1) := by decide +kernel
theorem dX12_alikeAt_35 : decode cX12_alikeAt 35 = .ok (.istore_n 3, 1) := by decide +kernel
theorem dX12_alikeAt_36 : decode cX12_alikeAt 36 = .ok (.iinc 4 1, 3) := by decide +kernel
theorem dX12_alikeAt_39 : decode cX12_alikeAt 39 = .ok (.goto (-34), 3) := by decide +kernel
theorem dX12_alikeAt_42 : decode cX12_alikeAt 42 = .ok (.iload_n 3, 1) := by decide +kernel
theorem dX12_alikeAt_43 : decode cX12_alikeAt 43 = .ok (.ireturn, 1) := by decide +kernel
theorem dX12_best_0 : decode cX12_best 0 = .ok (.iload_n 1, 1) := by decide +kernel
theorem dX12_best_1 : decode cX12_best 1 = .ok (.iconst 2, 1) := by decide +kernel
theorem dX12_best_2 : decode cX12_best 2 = .ok (.bipush 12, 2) := by decide +kernel
theorem dX12_best_4 : decode cX12_best 4 = .ok (.invokestatic 219, 3) := by decide +kernel
theorem dX12_best_7 : decode cX12_best 7 = .ok (.ifCond .eq 12, 3) := by decide +kernel
theorem dX12_best_10 : decode cX12_best 10 = .ok (.iload_n 2, 1) := by decide +kernel
theorem dX12_best_11 : decode cX12_best 11 = .ok (.iconst 0, 1) := by decide +kernel
theorem dX12_best_12 : decode cX12_best 12 = .ok (.iconst 3, 1) := by decide +kernel
theorem dX12_best_13 : decode cX12_best 13 = .ok (.invokestatic 219, 3) := by decide +kernel
theorem dX12_best_16 : decode cX12_best 16 = .ok (.ifCond .ne 5, 3) := by decide +kernel
theorem dX12_best_19 : decode cX12_best 19 = .ok (.iconst (-1), 1) := by decide +kernel
theorem dX12_best_20 : decode cX12_best 20 = .ok (.ireturn, 1) := by decide +kernel
theorem dX12_best_21 : decode cX12_best 21 = .ok (.iconst (-1), 1) := by decide +kernel
theorem dX12_best_22 : decode cX12_best 22 = .ok (.istore_n 3, 1) := by decide +kernel
theorem dX12_best_23 : decode cX12_best 23 = .ok (.iconst 0, 1) := by decide +kernel
theorem dX12_best_24 : decode cX12_best 24 = .ok (.istore 4, 2) := by decide +kernel
theorem dX12_best_26 : decode cX12_best 26 = .ok (.iconst 0, 1) := by decide +kernel
theorem dX12_best_27 : decode cX12_best 27 = .ok (.istore 5, 2) := by decide +kernel
theorem dX12_best_29 : decode cX12_best 29 = .ok (.iconst 0, 1) := by decide +kernel
theorem dX12_best_30 : decode cX12_best 30 = .ok (.istore 6, 2) := by decide +kernel
theorem dX12_best_32 : decode cX12_best 32 = .ok (.iconst 0, 1) := by decide +kernel
theorem dX12_best_33 : decode cX12_best 33 = .ok (.istore 7, 2) := by decide +kernel
theorem dX12_best_35 : decode cX12_best 35 = .ok (.iload 7, 2) := by decide +kernel
theorem dX12_best_37 : decode cX12_best 37 = .ok (.iconst 1, 1) := by decide +kernel
theorem dX12_best_38 : decode cX12_best 38 = .ok (.iload_n 1, 1) := by decide +kernel
theorem dX12_best_39 : decode cX12_best 39 = .ok (.ishl, 1) := by decide +kernel
theorem dX12_best_40 : decode cX12_best 40 = .ok (.if_icmp .ge 135, 3) := by decide +kernel
theorem dX12_best_43 : decode cX12_best 43 = .ok (.iconst 0, 1) := by decide +kernel
theorem dX12_best_44 : decode cX12_best 44 = .ok (.istore 8, 2) := by decide +kernel
theorem dX12_best_46 : decode cX12_best 46 = .ok (.iconst 0, 1) := by decide +kernel
theorem dX12_best_47 : decode cX12_best 47 = .ok (.istore 9, 2) := by decide +kernel
theorem dX12_best_49 : decode cX12_best 49 = .ok (.iconst 1, 1) := by decide +kernel
theorem dX12_best_50 : decode cX12_best 50 = .ok (.istore 10, 2) := by decide +kernel
theorem dX12_best_52 : decode cX12_best 52 = .ok (.iload 10, 2) := by decide +kernel
theorem dX12_best_54 : decode cX12_best 54 = .ok (.iload_n 1, 1) := by decide +kernel
theorem dX12_best_55 : decode cX12_best 55 = .ok (.if_icmp .ge 43, 3) := by decide +kernel
theorem dX12_best_58 : decode cX12_best 58 = .ok (.iload 7, 2) := by decide +kernel
theorem dX12_best_60 : decode cX12_best 60 = .ok (.iload_n 1, 1) := by decide +kernel
theorem dX12_best_61 : decode cX12_best 61 = .ok (.iload 10, 2) := by decide +kernel
theorem dX12_best_63 : decode cX12_best 63 = .ok (.invokestatic 317, 3) := by decide +kernel
theorem dX12_best_66 : decode cX12_best 66 = .ok (.istore 11, 2) := by decide +kernel
theorem dX12_best_68 : decode cX12_best 68 = .ok (.iload 8, 2) := by decide +kernel
theorem dX12_best_70 : decode cX12_best 70 = .ok (.iload 11, 2) := by decide +kernel
theorem dX12_best_72 : decode cX12_best 72 = .ok (.iload 11, 2) := by decide +kernel
theorem dX12_best_74 : decode cX12_best 74 = .ok (.imul, 1) := by decide +kernel
theorem dX12_best_75 : decode cX12_best 75 = .ok (.invokestatic 260, 3) := by decide +kernel
theorem dX12_best_78 : decode cX12_best 78 = .ok (.istore 8, 2) := by decide +kernel
theorem dX12_best_80 : decode cX12_best 80 = .ok (.iload 9, 2) := by decide +kernel
theorem dX12_best_82 : decode cX12_best 82 = .ok (.iconst 2, 1) := by decide +kernel
theorem dX12_best_83 : decode cX12_best 83 = .ok (.iload 11, 2) := by decide +kernel
theorem dX12_best_85 : decode cX12_best 85 = .ok (.imul, 1) := by decide +kernel
theorem dX12_best_86 : decode cX12_best 86 = .ok (.iload 11, 2) := by decide +kernel
theorem dX12_best_88 : decode cX12_best 88 = .ok (.imul, 1) := by decide +kernel
theorem dX12_best_89 : decode cX12_best 89 = .ok (.iadd, 1) := by decide +kernel
theorem dX12_best_90 : decode cX12_best 90 = .ok (.istore 9, 2) := by decide +kernel
theorem dX12_best_92 : decode cX12_best 92 = .ok (.iinc 10 1, 3) := by decide +kernel
theorem dX12_best_95 : decode cX12_best 95 = .ok (.goto (-43), 3) := by decide +kernel
theorem dX12_best_98 : decode cX12_best 98 = .ok (.iload_n 3, 1) := by decide +kernel
theorem dX12_best_99 : decode cX12_best 99 = .ok (.iconst (-1), 1) := by decide +kernel
theorem dX12_best_100 : decode cX12_best 100 = .ok (.if_icmp .eq 10, 3) := by decide +kernel
theorem dX12_best_103 : decode cX12_best 103 = .ok (.iload 8, 2) := by decide +kernel
theorem dX12_best_105 : decode cX12_best 105 = .ok (.iload 4, 2) := by decide +kernel
theorem dX12_best_107 : decode cX12_best 107 = .ok (.if_icmp .ge 7, 3) := by decide +kernel
theorem dX12_best_110 : decode cX12_best 110 = .ok (.iconst 1, 1) := by decide +kernel
theorem dX12_best_111 : decode cX12_best 111 = .ok (.goto 19, 3) := by decide +kernel
theorem dX12_best_114 : decode cX12_best 114 = .ok (.iload 8, 2) := by decide +kernel
theorem dX12_best_116 : decode cX12_best 116 = .ok (.iload 4, 2) := by decide +kernel
theorem dX12_best_118 : decode cX12_best 118 = .ok (.if_icmp .ne 10, 3) := by decide +kernel
theorem dX12_best_121 : decode cX12_best 121 = .ok (.iload 6, 2) := by decide +kernel
theorem dX12_best_123 : decode cX12_best 123 = .ok (.iconst 1, 1) := by decide +kernel
theorem dX12_best_124 : decode cX12_best 124 = .ok (.iadd, 1) := by decide +kernel
theorem dX12_best_125 : decode cX12_best 125 = .ok (.goto 5, 3) := by decide +kernel
theorem dX12_best_128 : decode cX12_best 128 = .ok (.iload 6, 2) := by decide +kernel
theorem dX12_best_130 : decode cX12_best 130 = .ok (.istore 6, 2) := by decide +kernel
theorem dX12_best_132 : decode cX12_best 132 = .ok (.iload_n 3, 1) := by decide +kernel
theorem dX12_best_133 : decode cX12_best 133 = .ok (.iconst (-1), 1) := by decide +kernel
theorem dX12_best_134 : decode cX12_best 134 = .ok (.if_icmp .eq 24, 3) := by decide +kernel
theorem dX12_best_137 : decode cX12_best 137 = .ok (.iload 8, 2) := by decide +kernel
theorem dX12_best_139 : decode cX12_best 139 = .ok (.iload 4, 2) := by decide +kernel
theorem dX12_best_141 : decode cX12_best 141 = .ok (.if_icmp .lt 17, 3) := by decide +kernel
theorem dX12_best_144 : decode cX12_best 144 = .ok (.iload 8, 2) := by decide +kernel
theorem dX12_best_146 : decode cX12_best 146 = .ok (.iload 4, 2) := by decide +kernel
theorem dX12_best_148 : decode cX12_best 148 = .ok (.if_icmp .ne 21, 3) := by decide +kernel
theorem dX12_best_151 : decode cX12_best 151 = .ok (.iload 9, 2) := by decide +kernel
theorem dX12_best_153 : decode cX12_best 153 = .ok (.iload 5, 2) := by decide +kernel
theorem dX12_best_155 : decode cX12_best 155 = .ok (.if_icmp .ge 14, 3) := by decide +kernel
theorem dX12_best_158 : decode cX12_best 158 = .ok (.iload 7, 2) := by decide +kernel
theorem dX12_best_160 : decode cX12_best 160 = .ok (.istore_n 3, 1) := by decide +kernel
theorem dX12_best_161 : decode cX12_best 161 = .ok (.iload 8, 2) := by decide +kernel
theorem dX12_best_163 : decode cX12_best 163 = .ok (.istore 4, 2) := by decide +kernel
theorem dX12_best_165 : decode cX12_best 165 = .ok (.iload 9, 2) := by decide +kernel
theorem dX12_best_167 : decode cX12_best 167 = .ok (.istore 5, 2) := by decide +kernel
theorem dX12_best_169 : decode cX12_best 169 = .ok (.iinc 7 1, 3) := by decide +kernel
theorem dX12_best_172 : decode cX12_best 172 = .ok (.goto (-137), 3) := by decide +kernel
theorem dX12_best_175 : decode cX12_best 175 = .ok (.iload_n 2, 1) := by decide +kernel
theorem dX12_best_176 : decode cX12_best 176 = .ok (.ifCond .ne 7, 3) := by decide +kernel
theorem dX12_best_179 : decode cX12_best 179 = .ok (.iload_n 3, 1) := by decide +kernel
theorem dX12_best_180 : decode cX12_best 180 = .ok (.goto 25, 3) := by decide +kernel
theorem dX12_best_183 : decode cX12_best 183 = .ok (.iload_n 2, 1) := by decide +kernel
theorem dX12_best_184 : decode cX12_best 184 = .ok (.iconst 1, 1) := by decide +kernel
theorem dX12_best_185 : decode cX12_best 185 = .ok (.if_icmp .ne 8, 3) := by decide +kernel
theorem dX12_best_188 : decode cX12_best 188 = .ok (.iload 4, 2) := by decide +kernel
theorem dX12_best_190 : decode cX12_best 190 = .ok (.goto 15, 3) := by decide +kernel
theorem dX12_best_193 : decode cX12_best 193 = .ok (.iload_n 2, 1) := by decide +kernel
theorem dX12_best_194 : decode cX12_best 194 = .ok (.iconst 2, 1) := by decide +kernel
theorem dX12_best_195 : decode cX12_best 195 = .ok (.if_icmp .ne 8, 3) := by decide +kernel
theorem dX12_best_198 : decode cX12_best 198 = .ok (.iload 5, 2) := by decide +kernel
theorem dX12_best_200 : decode cX12_best 200 = .ok (.goto 5, 3) := by decide +kernel
theorem dX12_best_203 : decode cX12_best 203 = .ok (.iload 6, 2) := by decide +kernel
theorem dX12_best_205 : decode cX12_best 205 = .ok (.ireturn, 1) := by decide +kernel
theorem dX12_filter_0 : decode cX12_filter 0 = .ok (.aload_n 0, 1) := by decide +kernel
theorem dX12_filter_1 : decode cX12_filter 1 = .ok (.iload_n 1, 1) := by decide +kernel
theorem dX12_filter_2 : decode cX12_filter 2 = .ok (.invokevirtual 244, 3) := by decide +kernel
theorem dX12_filter_5 : decode cX12_filter 5 = .ok (.ifCond .eq 23, 3) := by decide +kernel
theorem dX12_filter_8 : decode cX12_filter 8 = .ok (.aload_n 0, 1) := by decide +kernel
theorem dX12_filter_9 : decode cX12_filter 9 = .ok (.getfield 43, 3) := by decide +kernel
theorem dX12_filter_12 : decode cX12_filter 12 = .ok (.iload_n 1, 1) := by decide +kernel
theorem dX12_filter_13 : decode cX12_filter 13 = .ok (.iaload, 1) := by decide +kernel
theorem dX12_filter_14 : decode cX12_filter 14 = .ok (.bipush 6, 2) := by decide +kernel
theorem dX12_filter_16 : decode cX12_filter 16 = .ok (.if_icmp .gt 12, 3) := by decide +kernel
theorem dX12_filter_19 : decode cX12_filter 19 = .ok (.iload_n 2, 1) := by decide +kernel
theorem dX12_filter_20 : decode cX12_filter 20 = .ok (.iconst 0, 1) := by decide +kernel
theorem dX12_filter_21 : decode cX12_filter 21 = .ok (.iconst 3, 1) := by decide +kernel
theorem dX12_filter_22 : decode cX12_filter 22 = .ok (.invokestatic 219, 3) := by decide +kernel
theorem dX12_filter_25 : decode cX12_filter 25 = .ok (.ifCond .ne 5, 3) := by decide +kernel
theorem dX12_filter_28 : decode cX12_filter 28 = .ok (.iconst (-1), 1) := by decide +kernel
theorem dX12_filter_29 : decode cX12_filter 29 = .ok (.ireturn, 1) := by decide +kernel
theorem dX12_filter_30 : decode cX12_filter 30 = .ok (.iconst (-1), 1) := by decide +kernel
theorem dX12_filter_31 : decode cX12_filter 31 = .ok (.istore_n 3, 1) := by decide +kernel
theorem dX12_filter_32 : decode cX12_filter 32 = .ok (.iconst 0, 1) := by decide +kernel
theorem dX12_filter_33 : decode cX12_filter 33 = .ok (.istore 4, 2) := by decide +kernel
theorem dX12_filter_35 : decode cX12_filter 35 = .ok (.iconst 0, 1) := by decide +kernel
theorem dX12_filter_36 : decode cX12_filter 36 = .ok (.istore 5, 2) := by decide +kernel
theorem dX12_filter_38 : decode cX12_filter 38 = .ok (.iconst 0, 1) := by decide +kernel
theorem dX12_filter_39 : decode cX12_filter 39 = .ok (.istore 6, 2) := by decide +kernel
theorem dX12_filter_41 : decode cX12_filter 41 = .ok (.iconst 1, 1) := by decide +kernel
theorem dX12_filter_42 : decode cX12_filter 42 = .ok (.istore 7, 2) := by decide +kernel
theorem dX12_filter_44 : decode cX12_filter 44 = .ok (.iconst 0, 1) := by decide +kernel
theorem dX12_filter_45 : decode cX12_filter 45 = .ok (.istore 8, 2) := by decide +kernel
theorem dX12_filter_47 : decode cX12_filter 47 = .ok (.iload 8, 2) := by decide +kernel
theorem dX12_filter_49 : decode cX12_filter 49 = .ok (.aload_n 0, 1) := by decide +kernel
theorem dX12_filter_50 : decode cX12_filter 50 = .ok (.getfield 43, 3) := by decide +kernel
theorem dX12_filter_53 : decode cX12_filter 53 = .ok (.iload_n 1, 1) := by decide +kernel
theorem dX12_filter_54 : decode cX12_filter 54 = .ok (.iaload, 1) := by decide +kernel
theorem dX12_filter_55 : decode cX12_filter 55 = .ok (.if_icmp .ge 15, 3) := by decide +kernel
theorem dX12_filter_58 : decode cX12_filter 58 = .ok (.iload 7, 2) := by decide +kernel
theorem dX12_filter_60 : decode cX12_filter 60 = .ok (.iconst 5, 1) := by decide +kernel
theorem dX12_filter_61 : decode cX12_filter 61 = .ok (.imul, 1) := by decide +kernel
theorem dX12_filter_62 : decode cX12_filter 62 = .ok (.istore 7, 2) := by decide +kernel
theorem dX12_filter_64 : decode cX12_filter 64 = .ok (.iinc 8 1, 3) := by decide +kernel
theorem dX12_filter_67 : decode cX12_filter 67 = .ok (.goto (-20), 3) := by decide +kernel
theorem dX12_filter_70 : decode cX12_filter 70 = .ok (.iconst 0, 1) := by decide +kernel
theorem dX12_filter_71 : decode cX12_filter 71 = .ok (.istore 8, 2) := by decide +kernel
theorem dX12_filter_73 : decode cX12_filter 73 = .ok (.iload 8, 2) := by decide +kernel
theorem dX12_filter_75 : decode cX12_filter 75 = .ok (.iload 7, 2) := by decide +kernel
theorem dX12_filter_77 : decode cX12_filter 77 = .ok (.if_icmp .ge 131, 3) := by decide +kernel
theorem dX12_filter_80 : decode cX12_filter 80 = .ok (.iload 8, 2) := by decide +kernel
theorem dX12_filter_82 : decode cX12_filter 82 = .ok (.istore 9, 2) := by decide +kernel
theorem dX12_filter_84 : decode cX12_filter 84 = .ok (.aload_n 0, 1) := by decide +kernel
theorem dX12_filter_85 : decode cX12_filter 85 = .ok (.getfield 43, 3) := by decide +kernel
theorem dX12_filter_88 : decode cX12_filter 88 = .ok (.iload_n 1, 1) := by decide +kernel
theorem dX12_filter_89 : decode cX12_filter 89 = .ok (.iaload, 1) := by decide +kernel
theorem dX12_filter_90 : decode cX12_filter 90 = .ok (.iconst 1, 1) := by decide +kernel
theorem dX12_filter_91 : decode cX12_filter 91 = .ok (.isub, 1) := by decide +kernel
theorem dX12_filter_92 : decode cX12_filter 92 = .ok (.istore 10, 2) := by decide +kernel
theorem dX12_filter_94 : decode cX12_filter 94 = .ok (.iload 10, 2) := by decide +kernel
theorem dX12_filter_96 : decode cX12_filter 96 = .ok (.ifCond .lt 28, 3) := by decide +kernel
theorem dX12_filter_99 : decode cX12_filter 99 = .ok (.aload_n 0, 1) := by decide +kernel
theorem dX12_filter_100 : decode cX12_filter 100 = .ok (.getfield 52, 3) := by decide +kernel
theorem dX12_filter_103 : decode cX12_filter 103 = .ok (.iload 10, 2) := by decide +kernel
theorem dX12_filter_105 : decode cX12_filter 105 = .ok (.iload 9, 2) := by decide +kernel
theorem dX12_filter_107 : decode cX12_filter 107 = .ok (.iconst 5, 1) := by decide +kernel
theorem dX12_filter_108 : decode cX12_filter 108 = .ok (.irem, 1) := by decide +kernel
theorem dX12_filter_109 : decode cX12_filter 109 = .ok (.iconst 2, 1) := by decide +kernel
theorem dX12_filter_110 : decode cX12_filter 110 = .ok (.isub, 1) := by decide +kernel
theorem dX12_filter_111 : decode cX12_filter 111 = .ok (.iastore, 1) := by decide +kernel
theorem dX12_filter_112 : decode cX12_filter 112 = .ok (.iload 9, 2) := by decide +kernel
theorem dX12_filter_114 : decode cX12_filter 114 = .ok (.iconst 5, 1) := by decide +kernel
theorem dX12_filter_115 : decode cX12_filter 115 = .ok (.idiv, 1) := by decide +kernel
theorem dX12_filter_116 : decode cX12_filter 116 = .ok (.istore 9, 2) := by decide +kernel
theorem dX12_filter_118 : decode cX12_filter 118 = .ok (.iinc 10 (-1), 3) := by decide +kernel
theorem dX12_filter_121 : decode cX12_filter 121 = .ok (.goto (-27), 3) := by decide +kernel
theorem dX12_filter_124 : decode cX12_filter 124 = .ok (.aload_n 0, 1) := by decide +kernel
theorem dX12_filter_125 : decode cX12_filter 125 = .ok (.iload_n 1, 1) := by decide +kernel
theorem dX12_filter_126 : decode cX12_filter 126 = .ok (.invokevirtual 299, 3) := by decide +kernel
theorem dX12_filter_129 : decode cX12_filter 129 = .ok (.iload_n 3, 1) := by decide +kernel
theorem dX12_filter_130 : decode cX12_filter 130 = .ok (.iconst (-1), 1) := by decide +kernel
theorem dX12_filter_131 : decode cX12_filter 131 = .ok (.if_icmp .ne 7, 3) := by decide +kernel
theorem dX12_filter_134 : decode cX12_filter 134 = .ok (.iconst 1, 1) := by decide +kernel
theorem dX12_filter_135 : decode cX12_filter 135 = .ok (.goto 18, 3) := by decide +kernel
theorem dX12_filter_138 : decode cX12_filter 138 = .ok (.iload 4, 2) := by decide +kernel
theorem dX12_filter_140 : decode cX12_filter 140 = .ok (.aload_n 0, 1) := by decide +kernel
theorem dX12_filter_141 : decode cX12_filter 141 = .ok (.getfield 293, 3) := by decide +kernel
theorem dX12_filter_144 : decode cX12_filter 144 = .ok (.imul, 1) := by decide +kernel
theorem dX12_filter_145 : decode cX12_filter 145 = .ok (.aload_n 0, 1) := by decide +kernel
theorem dX12_filter_146 : decode cX12_filter 146 = .ok (.getfield 284, 3) := by decide +kernel
theorem dX12_filter_149 : decode cX12_filter 149 = .ok (.iload 5, 2) := by decide +kernel
theorem dX12_filter_151 : decode cX12_filter 151 = .ok (.imul, 1) := by decide +kernel
theorem dX12_filter_152 : decode cX12_filter 152 = .ok (.isub, 1) := by decide +kernel
theorem dX12_filter_153 : decode cX12_filter 153 = .ok (.istore 10, 2) := by decide +kernel
theorem dX12_filter_155 : decode cX12_filter 155 = .ok (.aload_n 0, 1) := by decide +kernel
theorem dX12_filter_156 : decode cX12_filter 156 = .ok (.getfield 293, 3) := by decide +kernel
theorem dX12_filter_159 : decode cX12_filter 159 = .ok (.ifCond .le 43, 3) := by decide +kernel
theorem dX12_filter_162 : decode cX12_filter 162 = .ok (.iload 10, 2) := by decide +kernel
theorem dX12_filter_164 : decode cX12_filter 164 = .ok (.ifCond .gt 17, 3) := by decide +kernel
theorem dX12_filter_167 : decode cX12_filter 167 = .ok (.iload 10, 2) := by decide +kernel
theorem dX12_filter_169 : decode cX12_filter 169 = .ok (.ifCond .ne 33, 3) := by decide +kernel
theorem dX12_filter_172 : decode cX12_filter 172 = .ok (.aload_n 0, 1) := by decide +kernel
theorem dX12_filter_173 : decode cX12_filter 173 = .ok (.getfield 296, 3) := by decide +kernel
theorem dX12_filter_176 : decode cX12_filter 176 = .ok (.iload 6, 2) := by decide +kernel
theorem dX12_filter_178 : decode cX12_filter 178 = .ok (.if_icmp .le 24, 3) := by decide +kernel
theorem dX12_filter_181 : decode cX12_filter 181 = .ok (.iload 8, 2) := by decide +kernel
theorem dX12_filter_183 : decode cX12_filter 183 = .ok (.istore_n 3, 1) := by decide +kernel
theorem dX12_filter_184 : decode cX12_filter 184 = .ok (.aload_n 0, 1) := by decide +kernel
theorem dX12_filter_185 : decode cX12_filter 185 = .ok (.getfield 284, 3) := by decide +kernel
theorem dX12_filter_188 : decode cX12_filter 188 = .ok (.istore 4, 2) := by decide +kernel
theorem dX12_filter_190 : decode cX12_filter 190 = .ok (.aload_n 0, 1) := by decide +kernel
theorem dX12_filter_191 : decode cX12_filter 191 = .ok (.getfield 293, 3) := by decide +kernel
theorem dX12_filter_194 : decode cX12_filter 194 = .ok (.istore 5, 2) := by decide +kernel
theorem dX12_filter_196 : decode cX12_filter 196 = .ok (.aload_n 0, 1) := by decide +kernel
theorem dX12_filter_197 : decode cX12_filter 197 = .ok (.getfield 296, 3) := by decide +kernel
theorem dX12_filter_200 : decode cX12_filter 200 = .ok (.istore 6, 2) := by decide +kernel
theorem dX12_filter_202 : decode cX12_filter 202 = .ok (.iinc 8 1, 3) := by decide +kernel
theorem dX12_filter_205 : decode cX12_filter 205 = .ok (.goto (-132), 3) := by decide +kernel
theorem dX12_filter_208 : decode cX12_filter 208 = .ok (.iload_n 3, 1) := by decide +kernel
theorem dX12_filter_209 : decode cX12_filter 209 = .ok (.iconst (-1), 1) := by decide +kernel
theorem dX12_filter_210 : decode cX12_filter 210 = .ok (.if_icmp .eq 7, 3) := by decide +kernel
theorem dX12_filter_213 : decode cX12_filter 213 = .ok (.iload_n 2, 1) := by decide +kernel
theorem dX12_filter_214 : decode cX12_filter 214 = .ok (.ifCond .ne 7, 3) := by decide +kernel
theorem dX12_filter_217 : decode cX12_filter 217 = .ok (.iload_n 3, 1) := by decide +kernel
theorem dX12_filter_218 : decode cX12_filter 218 = .ok (.goto 25, 3) := by decide +kernel
theorem dX12_filter_221 : decode cX12_filter 221 = .ok (.iload_n 2, 1) := by decide +kernel
theorem dX12_filter_222 : decode cX12_filter 222 = .ok (.iconst 1, 1) := by decide +kernel
theorem dX12_filter_223 : decode cX12_filter 223 = .ok (.if_icmp .ne 8, 3) := by decide +kernel
theorem dX12_filter_226 : decode cX12_filter 226 = .ok (.iload 4, 2) := by decide +kernel
theorem dX12_filter_228 : decode cX12_filter 228 = .ok (.goto 15, 3) := by decide +kernel
theorem dX12_filter_231 : decode cX12_filter 231 = .ok (.iload_n 2, 1) := by decide +kernel
theorem dX12_filter_232 : decode cX12_filter 232 = .ok (.iconst 2, 1) := by decide +kernel
theorem dX12_filter_233 : decode cX12_filter 233 = .ok (.if_icmp .ne 8, 3) := by decide +kernel
theorem dX12_filter_236 : decode cX12_filter 236 = .ok (.iload 5, 2) := by decide +kernel
theorem dX12_filter_238 : decode cX12_filter 238 = .ok (.goto 5, 3) := by decide +kernel
theorem dX12_filter_241 : decode cX12_filter 241 = .ok (.iload 6, 2) := by decide +kernel
theorem dX12_filter_243 : decode cX12_filter 243 = .ok (.ireturn, 1) := by decide +kernel
theorem dX12_set_0 : decode cX12_set 0 = .ok (.iload_n 1, 1) := by decide +kernel
theorem dX12_set_1 : decode cX12_set 1 = .ok (.iconst 0, 1) := by decide +kernel
theorem dX12_set_2 : decode cX12_set 2 = .ok (.iconst 5, 1) := by decide +kernel
theorem dX12_set_3 : decode cX12_set 3 = .ok (.invokestatic 219, 3) := by decide +kernel
theorem dX12_set_6 : decode cX12_set 6 = .ok (.ifCond .eq 75, 3) := by decide +kernel
theorem dX12_set_9 : decode cX12_set 9 = .ok (.iload_n 2, 1) := by decide +kernel
theorem dX12_set_10 : decode cX12_set 10 = .ok (.iload_n 1, 1) := by decide +kernel
theorem dX12_set_11 : decode cX12_set 11 = .ok (.iconst 1, 1) := by decide +kernel
theorem dX12_set_12 : decode cX12_set 12 = .ok (.if_icmp .eq 13, 3) := by decide +kernel
theorem dX12_set_15 : decode cX12_set 15 = .ok (.iload_n 1, 1) := by decide +kernel
theorem dX12_set_16 : decode cX12_set 16 = .ok (.iconst 3, 1) := by decide +kernel
theorem dX12_set_17 : decode cX12_set 17 = .ok (.if_icmp .eq 8, 3) := by decide +kernel
theorem dX12_set_20 : decode cX12_set 20 = .ok (.iload_n 1, 1) := by decide +kernel
theorem dX12_set_21 : decode cX12_set 21 = .ok (.iconst 4, 1) := by decide +kernel
theorem dX12_set_22 : decode cX12_set 22 = .ok (.if_icmp .ne 7, 3) := by decide +kernel
theorem dX12_set_25 : decode cX12_set 25 = .ok (.iconst 1, 1) := by decide +kernel
theorem dX12_set_26 : decode cX12_set 26 = .ok (.goto 4, 3) := by decide +kernel
theorem dX12_set_29 : decode cX12_set 29 = .ok (.iconst 0, 1) := by decide +kernel
theorem dX12_set_30 : decode cX12_set 30 = .ok (.iload_n 1, 1) := by decide +kernel
theorem dX12_set_31 : decode cX12_set 31 = .ok (.ifCond .ne 8, 3) := by decide +kernel
theorem dX12_set_34 : decode cX12_set 34 = .ok (.bipush 9, 2) := by decide +kernel
theorem dX12_set_36 : decode cX12_set 36 = .ok (.goto 39, 3) := by decide +kernel
theorem dX12_set_39 : decode cX12_set 39 = .ok (.iload_n 1, 1) := by decide +kernel
theorem dX12_set_40 : decode cX12_set 40 = .ok (.iconst 1, 1) := by decide +kernel
theorem dX12_set_41 : decode cX12_set 41 = .ok (.if_icmp .eq 8, 3) := by decide +kernel
theorem dX12_set_44 : decode cX12_set 44 = .ok (.iload_n 1, 1) := by decide +kernel
theorem dX12_set_45 : decode cX12_set 45 = .ok (.iconst 3, 1) := by decide +kernel
theorem dX12_set_46 : decode cX12_set 46 = .ok (.if_icmp .ne 8, 3) := by decide +kernel
theorem dX12_set_49 : decode cX12_set 49 = .ok (.bipush 8, 2) := by decide +kernel
theorem dX12_set_51 : decode cX12_set 51 = .ok (.goto 24, 3) := by decide +kernel
theorem dX12_set_54 : decode cX12_set 54 = .ok (.iload_n 1, 1) := by decide +kernel
theorem dX12_set_55 : decode cX12_set 55 = .ok (.iconst 2, 1) := by decide +kernel
theorem dX12_set_56 : decode cX12_set 56 = .ok (.if_icmp .ne 7, 3) := by decide +kernel
theorem dX12_set_59 : decode cX12_set 59 = .ok (.iconst 3, 1) := by decide +kernel
theorem dX12_set_60 : decode cX12_set 60 = .ok (.goto 15, 3) := by decide +kernel
theorem dX12_set_63 : decode cX12_set 63 = .ok (.iload_n 1, 1) := by decide +kernel
theorem dX12_set_64 : decode cX12_set 64 = .ok (.iconst 4, 1) := by decide +kernel
theorem dX12_set_65 : decode cX12_set 65 = .ok (.if_icmp .ne 8, 3) := by decide +kernel
theorem dX12_set_68 : decode cX12_set 68 = .ok (.bipush 16, 2) := by decide +kernel
theorem dX12_set_70 : decode cX12_set 70 = .ok (.goto 5, 3) := by decide +kernel
theorem dX12_set_73 : decode cX12_set 73 = .ok (.bipush 99, 2) := by decide +kernel
theorem dX12_set_75 : decode cX12_set 75 = .ok (.invokestatic 219, 3) := by decide +kernel
theorem dX12_set_78 : decode cX12_set 78 = .ok (.ifCond .ne 5, 3) := by decide +kernel
theorem dX12_set_81 : decode cX12_set 81 = .ok (.iconst 0, 1) := by decide +kernel
theorem dX12_set_82 : decode cX12_set 82 = .ok (.ireturn, 1) := by decide +kernel
theorem dX12_set_83 : decode cX12_set 83 = .ok (.aload_n 0, 1) := by decide +kernel
theorem dX12_set_84 : decode cX12_set 84 = .ok (.iload_n 1, 1) := by decide +kernel
theorem dX12_set_85 : decode cX12_set 85 = .ok (.ifCond .ne 7, 3) := by decide +kernel
theorem dX12_set_88 : decode cX12_set 88 = .ok (.iload_n 2, 1) := by decide +kernel
theorem dX12_set_89 : decode cX12_set 89 = .ok (.goto 7, 3) := by decide +kernel
theorem dX12_set_92 : decode cX12_set 92 = .ok (.aload_n 0, 1) := by decide +kernel
theorem dX12_set_93 : decode cX12_set 93 = .ok (.getfield 55, 3) := by decide +kernel
theorem dX12_set_96 : decode cX12_set 96 = .ok (.putfield 55, 3) := by decide +kernel
theorem dX12_set_99 : decode cX12_set 99 = .ok (.aload_n 0, 1) := by decide +kernel
theorem dX12_set_100 : decode cX12_set 100 = .ok (.iload_n 1, 1) := by decide +kernel
theorem dX12_set_101 : decode cX12_set 101 = .ok (.iconst 1, 1) := by decide +kernel
theorem dX12_set_102 : decode cX12_set 102 = .ok (.if_icmp .ne 7, 3) := by decide +kernel
theorem dX12_set_105 : decode cX12_set 105 = .ok (.iload_n 2, 1) := by decide +kernel
theorem dX12_set_106 : decode cX12_set 106 = .ok (.goto 7, 3) := by decide +kernel
theorem dX12_set_109 : decode cX12_set 109 = .ok (.aload_n 0, 1) := by decide +kernel
theorem dX12_set_110 : decode cX12_set 110 = .ok (.getfield 59, 3) := by decide +kernel
theorem dX12_set_113 : decode cX12_set 113 = .ok (.putfield 59, 3) := by decide +kernel
theorem dX12_set_116 : decode cX12_set 116 = .ok (.aload_n 0, 1) := by decide +kernel
theorem dX12_set_117 : decode cX12_set 117 = .ok (.iload_n 1, 1) := by decide +kernel
theorem dX12_set_118 : decode cX12_set 118 = .ok (.iconst 2, 1) := by decide +kernel
theorem dX12_set_119 : decode cX12_set 119 = .ok (.if_icmp .ne 7, 3) := by decide +kernel
theorem dX12_set_122 : decode cX12_set 122 = .ok (.iload_n 2, 1) := by decide +kernel
theorem dX12_set_123 : decode cX12_set 123 = .ok (.goto 7, 3) := by decide +kernel
theorem dX12_set_126 : decode cX12_set 126 = .ok (.aload_n 0, 1) := by decide +kernel
theorem dX12_set_127 : decode cX12_set 127 = .ok (.getfield 62, 3) := by decide +kernel
theorem dX12_set_130 : decode cX12_set 130 = .ok (.putfield 62, 3) := by decide +kernel
theorem dX12_set_133 : decode cX12_set 133 = .ok (.aload_n 0, 1) := by decide +kernel
theorem dX12_set_134 : decode cX12_set 134 = .ok (.iload_n 1, 1) := by decide +kernel
theorem dX12_set_135 : decode cX12_set 135 = .ok (.iconst 3, 1) := by decide +kernel
theorem dX12_set_136 : decode cX12_set 136 = .ok (.if_icmp .ne 7, 3) := by decide +kernel
theorem dX12_set_139 : decode cX12_set 139 = .ok (.iload_n 2, 1) := by decide +kernel
theorem dX12_set_140 : decode cX12_set 140 = .ok (.goto 7, 3) := by decide +kernel
theorem dX12_set_143 : decode cX12_set 143 = .ok (.aload_n 0, 1) := by decide +kernel
theorem dX12_set_144 : decode cX12_set 144 = .ok (.getfield 65, 3) := by decide +kernel
theorem dX12_set_147 : decode cX12_set 147 = .ok (.putfield 65, 3) := by decide +kernel
theorem dX12_set_150 : decode cX12_set 150 = .ok (.aload_n 0, 1) := by decide +kernel
theorem dX12_set_151 : decode cX12_set 151 = .ok (.iload_n 1, 1) := by decide +kernel
theorem dX12_set_152 : decode cX12_set 152 = .ok (.iconst 4, 1) := by decide +kernel
theorem dX12_set_153 : decode cX12_set 153 = .ok (.if_icmp .ne 7, 3) := by decide +kernel
theorem dX12_set_156 : decode cX12_set 156 = .ok (.iload_n 2, 1) := by decide +kernel
theorem dX12_set_157 : decode cX12_set 157 = .ok (.goto 7, 3) := by decide +kernel
theorem dX12_set_160 : decode cX12_set 160 = .ok (.aload_n 0, 1) := by decide +kernel
theorem dX12_set_161 : decode cX12_set 161 = .ok (.getfield 68, 3) := by decide +kernel
theorem dX12_set_164 : decode cX12_set 164 = .ok (.putfield 68, 3) := by decide +kernel
theorem dX12_set_167 : decode cX12_set 167 = .ok (.aload_n 0, 1) := by decide +kernel
theorem dX12_set_168 : decode cX12_set 168 = .ok (.iload_n 1, 1) := by decide +kernel
theorem dX12_set_169 : decode cX12_set 169 = .ok (.iconst 5, 1) := by decide +kernel
theorem dX12_set_170 : decode cX12_set 170 = .ok (.if_icmp .ne 7, 3) := by decide +kernel
theorem dX12_set_173 : decode cX12_set 173 = .ok (.iload_n 2, 1) := by decide +kernel
theorem dX12_set_174 : decode cX12_set 174 = .ok (.goto 7, 3) := by decide +kernel
theorem dX12_set_177 : decode cX12_set 177 = .ok (.aload_n 0, 1) := by decide +kernel
theorem dX12_set_178 : decode cX12_set 178 = .ok (.getfield 71, 3) := by decide +kernel
theorem dX12_set_181 : decode cX12_set 181 = .ok (.putfield 71, 3) := by decide +kernel
theorem dX12_set_184 : decode cX12_set 184 = .ok (.iconst 1, 1) := by decide +kernel
theorem dX12_set_185 : decode cX12_set 185 = .ok (.ireturn, 1) := by decide +kernel
theorem dX12_isSeen_0 : decode cX12_isSeen 0 = .ok (.iconst 0, 1) := by decide +kernel
theorem dX12_isSeen_1 : decode cX12_isSeen 1 = .ok (.istore 4, 2) := by decide +kernel
theorem dX12_isSeen_3 : decode cX12_isSeen 3 = .ok (.iconst 0, 1) := by decide +kernel
theorem dX12_isSeen_4 : decode cX12_isSeen 4 = .ok (.istore 5, 2) := by decide +kernel
theorem dX12_isSeen_6 : decode cX12_isSeen 6 = .ok (.iload 5, 2) := by decide +kernel
theorem dX12_isSeen_8 : decode cX12_isSeen 8 = .ok (.aload_n 0, 1) := by decide +kernel
theorem dX12_isSeen_9 : decode cX12_isSeen 9 = .ok (.getfield 49, 3) := by decide +kernel
theorem dX12_isSeen_12 : decode cX12_isSeen 12 = .ok (.iload_n 1, 1) := by decide +kernel
theorem dX12_isSeen_13 : decode cX12_isSeen 13 = .ok (.iaload, 1) := by decide +kernel
theorem dX12_isSeen_14 : decode cX12_isSeen 14 = .ok (.if_icmp .ge 49, 3) := by decide +kernel
theorem dX12_isSeen_17 : decode cX12_isSeen 17 = .ok (.iload 4, 2) := by decide +kernel
theorem dX12_isSeen_19 : decode cX12_isSeen 19 = .ok (.iload_n 2, 1) := by decide +kernel
theorem dX12_isSeen_20 : decode cX12_isSeen 20 = .ok (.iload 5, 2) := by decide +kernel
theorem dX12_isSeen_22 : decode cX12_isSeen 22 = .ok (.invokestatic 314, 3) := by decide +kernel
theorem dX12_isSeen_25 : decode cX12_isSeen 25 = .ok (.ifCond .eq 28, 3) := by decide +kernel
theorem dX12_isSeen_28 : decode cX12_isSeen 28 = .ok (.iload_n 3, 1) := by decide +kernel
theorem dX12_isSeen_29 : decode cX12_isSeen 29 = .ok (.aload_n 0, 1) := by decide +kernel
theorem dX12_isSeen_30 : decode cX12_isSeen 30 = .ok (.getfield 46, 3) := by decide +kernel
theorem dX12_isSeen_33 : decode cX12_isSeen 33 = .ok (.bipush 8, 2) := by decide +kernel
theorem dX12_isSeen_35 : decode cX12_isSeen 35 = .ok (.iload_n 1, 1) := by decide +kernel
theorem dX12_isSeen_36 : decode cX12_isSeen 36 = .ok (.imul, 1) := by decide +kernel
theorem dX12_isSeen_37 : decode cX12_isSeen 37 = .ok (.iload 5, 2) := by decide +kernel
theorem dX12_isSeen_39 : decode cX12_isSeen 39 = .ok (.iadd, 1) := by decide +kernel
theorem dX12_isSeen_40 : decode cX12_isSeen 40 = .ok (.iaload, 1) := by decide +kernel
theorem dX12_isSeen_41 : decode cX12_isSeen 41 = .ok (.irem, 1) := by decide +kernel
theorem dX12_isSeen_42 : decode cX12_isSeen 42 = .ok (.aload_n 0, 1) := by decide +kernel
theorem dX12_isSeen_43 : decode cX12_isSeen 43 = .ok (.getfield 55, 3) := by decide +kernel
theorem dX12_isSeen_46 : decode cX12_isSeen 46 = .ok (.if_icmp .lt 7, 3) := by decide +kernel
theorem dX12_isSeen_49 : decode cX12_isSeen 49 = .ok (.iconst 1, 1) := by decide +kernel
theorem dX12_isSeen_50 : decode cX12_isSeen 50 = .ok (.goto 4, 3) := by decide +kernel
theorem dX12_isSeen_53 : decode cX12_isSeen 53 = .ok (.iconst 0, 1) := by decide +kernel
theorem dX12_isSeen_54 : decode cX12_isSeen 54 = .ok (.iadd, 1) := by decide +kernel
theorem dX12_isSeen_55 : decode cX12_isSeen 55 = .ok (.istore 4, 2) := by decide +kernel
theorem dX12_isSeen_57 : decode cX12_isSeen 57 = .ok (.iinc 5 1, 3) := by decide +kernel
theorem dX12_isSeen_60 : decode cX12_isSeen 60 = .ok (.goto (-54), 3) := by decide +kernel
theorem dX12_isSeen_63 : decode cX12_isSeen 63 = .ok (.iload 4, 2) := by decide +kernel
theorem dX12_isSeen_65 : decode cX12_isSeen 65 = .ok (.aload_n 0, 1) := by decide +kernel
theorem dX12_isSeen_66 : decode cX12_isSeen 66 = .ok (.getfield 59, 3) := by decide +kernel
theorem dX12_isSeen_69 : decode cX12_isSeen 69 = .ok (.if_icmp .lt 7, 3) := by decide +kernel
theorem dX12_isSeen_72 : decode cX12_isSeen 72 = .ok (.iconst 1, 1) := by decide +kernel
theorem dX12_isSeen_73 : decode cX12_isSeen 73 = .ok (.goto 4, 3) := by decide +kernel
theorem dX12_isSeen_76 : decode cX12_isSeen 76 = .ok (.iconst 0, 1) := by decide +kernel
theorem dX12_isSeen_77 : decode cX12_isSeen 77 = .ok (.ireturn, 1) := by decide +kernel
theorem dX12_seenTo_0 : decode cX12_seenTo 0 = .ok (.iconst 0, 1) := by decide +kernel
theorem dX12_seenTo_1 : decode cX12_seenTo 1 = .ok (.istore 4, 2) := by decide +kernel
theorem dX12_seenTo_3 : decode cX12_seenTo 3 = .ok (.iconst 1, 1) := by decide +kernel
theorem dX12_seenTo_4 : decode cX12_seenTo 4 = .ok (.istore 5, 2) := by decide +kernel
theorem dX12_seenTo_6 : decode cX12_seenTo 6 = .ok (.iload 5, 2) := by decide +kernel
theorem dX12_seenTo_8 : decode cX12_seenTo 8 = .ok (.iload_n 3, 1) := by decide +kernel
theorem dX12_seenTo_9 : decode cX12_seenTo 9 = .ok (.if_icmp .gt 30, 3) := by decide +kernel
theorem dX12_seenTo_12 : decode cX12_seenTo 12 = .ok (.iload 4, 2) := by decide +kernel
theorem dX12_seenTo_14 : decode cX12_seenTo 14 = .ok (.aload_n 0, 1) := by decide +kernel
theorem dX12_seenTo_15 : decode cX12_seenTo 15 = .ok (.iload_n 1, 1) := by decide +kernel
theorem dX12_seenTo_16 : decode cX12_seenTo 16 = .ok (.iload_n 2, 1) := by decide +kernel
theorem dX12_seenTo_17 : decode cX12_seenTo 17 = .ok (.iload 5, 2) := by decide +kernel
theorem dX12_seenTo_19 : decode cX12_seenTo 19 = .ok (.invokevirtual 320, 3) := by decide +kernel
theorem dX12_seenTo_22 : decode cX12_seenTo 22 = .ok (.ifCond .eq 7, 3) := by decide +kernel
theorem dX12_seenTo_25 : decode cX12_seenTo 25 = .ok (.iconst 1, 1) := by decide +kernel
theorem dX12_seenTo_26 : decode cX12_seenTo 26 = .ok (.goto 4, 3) := by decide +kernel
theorem dX12_seenTo_29 : decode cX12_seenTo 29 = .ok (.iconst 0, 1) := by decide +kernel
theorem dX12_seenTo_30 : decode cX12_seenTo 30 = .ok (.iadd, 1) := by decide +kernel
theorem dX12_seenTo_31 : decode cX12_seenTo 31 = .ok (.istore 4, 2) := by decide +kernel
theorem dX12_seenTo_33 : decode cX12_seenTo 33 = .ok (.iinc 5 1, 3) := by decide +kernel
theorem dX12_seenTo_36 : decode cX12_seenTo 36 = .ok (.goto (-30), 3) := by decide +kernel
theorem dX12_seenTo_39 : decode cX12_seenTo 39 = .ok (.iload 4, 2) := by decide +kernel
theorem dX12_seenTo_41 : decode cX12_seenTo 41 = .ok (.ireturn, 1) := by decide +kernel
theorem dX12_seen_0 : decode cX12_seen 0 = .ok (.aload_n 0, 1) := by decide +kernel
theorem dX12_seen_1 : decode cX12_seen 1 = .ok (.iload_n 1, 1) := by decide +kernel
theorem dX12_seen_2 : decode cX12_seen 2 = .ok (.invokevirtual 247, 3) := by decide +kernel
theorem dX12_seen_5 : decode cX12_seen 5 = .ok (.ifCond .eq 34, 3) := by decide +kernel
theorem dX12_seen_8 : decode cX12_seen 8 = .ok (.iload_n 2, 1) := by decide +kernel
theorem dX12_seen_9 : decode cX12_seen 9 = .ok (.iconst 0, 1) := by decide +kernel
theorem dX12_seen_10 : decode cX12_seen 10 = .ok (.sipush 999, 3) := by decide +kernel
theorem dX12_seen_13 : decode cX12_seen 13 = .ok (.invokestatic 219, 3) := by decide +kernel
theorem dX12_seen_16 : decode cX12_seen 16 = .ok (.ifCond .eq 23, 3) := by decide +kernel
theorem dX12_seen_19 : decode cX12_seen 19 = .ok (.aload_n 0, 1) := by decide +kernel
theorem dX12_seen_20 : decode cX12_seen 20 = .ok (.iload_n 1, 1) := by decide +kernel
theorem dX12_seen_21 : decode cX12_seen 21 = .ok (.sipush 255, 3) := by decide +kernel
theorem dX12_seen_24 : decode cX12_seen 24 = .ok (.iload_n 2, 1) := by decide +kernel
theorem dX12_seen_25 : decode cX12_seen 25 = .ok (.invokevirtual 320, 3) := by decide +kernel
theorem dX12_seen_28 : decode cX12_seen 28 = .ok (.ifCond .eq 7, 3) := by decide +kernel
theorem dX12_seen_31 : decode cX12_seen 31 = .ok (.iconst 1, 1) := by decide +kernel
theorem dX12_seen_32 : decode cX12_seen 32 = .ok (.goto 8, 3) := by decide +kernel
theorem dX12_seen_35 : decode cX12_seen 35 = .ok (.iconst 0, 1) := by decide +kernel
theorem dX12_seen_36 : decode cX12_seen 36 = .ok (.goto 4, 3) := by decide +kernel
theorem dX12_seen_39 : decode cX12_seen 39 = .ok (.iconst (-1), 1) := by decide +kernel
theorem dX12_seen_40 : decode cX12_seen 40 = .ok (.ireturn, 1) := by decide +kernel
theorem dX12_map_0 : decode cX12_map 0 = .ok (.aload_n 0, 1) := by decide +kernel
theorem dX12_map_1 : decode cX12_map 1 = .ok (.iload_n 1, 1) := by decide +kernel
theorem dX12_map_2 : decode cX12_map 2 = .ok (.invokevirtual 247, 3) := by decide +kernel
theorem dX12_map_5 : decode cX12_map 5 = .ok (.ifCond .eq 23, 3) := by decide +kernel
theorem dX12_map_8 : decode cX12_map 8 = .ok (.iload_n 2, 1) := by decide +kernel
theorem dX12_map_9 : decode cX12_map 9 = .ok (.iconst 1, 1) := by decide +kernel
theorem dX12_map_10 : decode cX12_map 10 = .ok (.sipush 999, 3) := by decide +kernel
theorem dX12_map_13 : decode cX12_map 13 = .ok (.invokestatic 219, 3) := by decide +kernel
theorem dX12_map_16 : decode cX12_map 16 = .ok (.ifCond .eq 12, 3) := by decide +kernel
theorem dX12_map_19 : decode cX12_map 19 = .ok (.iload_n 3, 1) := by decide +kernel
theorem dX12_map_20 : decode cX12_map 20 = .ok (.iconst 0, 1) := by decide +kernel
theorem dX12_map_21 : decode cX12_map 21 = .ok (.iconst 1, 1) := by decide +kernel
theorem dX12_map_22 : decode cX12_map 22 = .ok (.invokestatic 219, 3) := by decide +kernel
theorem dX12_map_25 : decode cX12_map 25 = .ok (.ifCond .ne 7, 3) := by decide +kernel
theorem dX12_map_28 : decode cX12_map 28 = .ok (.ldc_w 268, 3) := by decide +kernel
theorem dX12_map_31 : decode cX12_map 31 = .ok (.ireturn, 1) := by decide +kernel
theorem dX12_map_32 : decode cX12_map 32 = .ok (.iload_n 3, 1) := by decide +kernel
theorem dX12_map_33 : decode cX12_map 33 = .ok (.ifCond .ne 13, 3) := by decide +kernel
theorem dX12_map_36 : decode cX12_map 36 = .ok (.aload_n 0, 1) := by decide +kernel
theorem dX12_map_37 : decode cX12_map 37 = .ok (.iload_n 1, 1) := by decide +kernel
theorem dX12_map_38 : decode cX12_map 38 = .ok (.sipush 255, 3) := by decide +kernel
theorem dX12_map_41 : decode cX12_map 41 = .ok (.iload_n 2, 1) := by decide +kernel
theorem dX12_map_42 : decode cX12_map 42 = .ok (.invokevirtual 323, 3) := by decide +kernel
theorem dX12_map_45 : decode cX12_map 45 = .ok (.ireturn, 1) := by decide +kernel
theorem dX12_map_46 : decode cX12_map 46 = .ok (.iconst 1, 1) := by decide +kernel
theorem dX12_map_47 : decode cX12_map 47 = .ok (.istore 4, 2) := by decide +kernel
theorem dX12_map_49 : decode cX12_map 49 = .ok (.iload 4, 2) := by decide +kernel
theorem dX12_map_51 : decode cX12_map 51 = .ok (.iload_n 2, 1) := by decide +kernel
theorem dX12_map_52 : decode cX12_map 52 = .ok (.if_icmp .gt 25, 3) := by decide +kernel
theorem dX12_map_55 : decode cX12_map 55 = .ok (.aload_n 0, 1) := by decide +kernel
theorem dX12_map_56 : decode cX12_map 56 = .ok (.iload_n 1, 1) := by decide +kernel
theorem dX12_map_57 : decode cX12_map 57 = .ok (.sipush 255, 3) := by decide +kernel
theorem dX12_map_60 : decode cX12_map 60 = .ok (.iload 4, 2) := by decide +kernel
theorem dX12_map_62 : decode cX12_map 62 = .ok (.invokevirtual 320, 3) := by decide +kernel
theorem dX12_map_65 : decode cX12_map 65 = .ok (.ifCond .ne 6, 3) := by decide +kernel
theorem dX12_map_68 : decode cX12_map 68 = .ok (.iload 4, 2) := by decide +kernel
theorem dX12_map_70 : decode cX12_map 70 = .ok (.ireturn, 1) := by decide +kernel
theorem dX12_map_71 : decode cX12_map 71 = .ok (.iinc 4 1, 3) := by decide +kernel
theorem dX12_map_74 : decode cX12_map 74 = .ok (.goto (-25), 3) := by decide +kernel
theorem dX12_map_77 : decode cX12_map 77 = .ok (.iconst (-1), 1) := by decide +kernel
theorem dX12_map_78 : decode cX12_map 78 = .ok (.ireturn, 1) := by decide +kernel
theorem dX12_choice_0 : decode cX12_choice 0 = .ok (.aload_n 0, 1) := by decide +kernel
theorem dX12_choice_1 : decode cX12_choice 1 = .ok (.iload_n 1, 1) := by decide +kernel
theorem dX12_choice_2 : decode cX12_choice 2 = .ok (.invokevirtual 247, 3) := by decide +kernel
theorem dX12_choice_5 : decode cX12_choice 5 = .ok (.ifCond .eq 38, 3) := by decide +kernel
theorem dX12_choice_8 : decode cX12_choice 8 = .ok (.iload_n 2, 1) := by decide +kernel
theorem dX12_choice_9 : decode cX12_choice 9 = .ok (.iconst 1, 1) := by decide +kernel
theorem dX12_choice_10 : decode cX12_choice 10 = .ok (.aload_n 0, 1) := by decide +kernel
theorem dX12_choice_11 : decode cX12_choice 11 = .ok (.getfield 49, 3) := by decide +kernel
theorem dX12_choice_14 : decode cX12_choice 14 = .ok (.iload_n 1, 1) := by decide +kernel
theorem dX12_choice_15 : decode cX12_choice 15 = .ok (.iaload, 1) := by decide +kernel
theorem dX12_choice_16 : decode cX12_choice 16 = .ok (.invokestatic 219, 3) := by decide +kernel
theorem dX12_choice_19 : decode cX12_choice 19 = .ok (.ifCond .eq 24, 3) := by decide +kernel
theorem dX12_choice_22 : decode cX12_choice 22 = .ok (.iload_n 3, 1) := by decide +kernel
theorem dX12_choice_23 : decode cX12_choice 23 = .ok (.iconst 1, 1) := by decide +kernel
theorem dX12_choice_24 : decode cX12_choice 24 = .ok (.sipush 999, 3) := by decide +kernel
theorem dX12_choice_27 : decode cX12_choice 27 = .ok (.invokestatic 219, 3) := by decide +kernel
theorem dX12_choice_30 : decode cX12_choice 30 = .ok (.ifCond .eq 13, 3) := by decide +kernel
theorem dX12_choice_33 : decode cX12_choice 33 = .ok (.iload 4, 2) := by decide +kernel
theorem dX12_choice_35 : decode cX12_choice 35 = .ok (.iconst 0, 1) := by decide +kernel
theorem dX12_choice_36 : decode cX12_choice 36 = .ok (.iconst 1, 1) := by decide +kernel
theorem dX12_choice_37 : decode cX12_choice 37 = .ok (.invokestatic 219, 3) := by decide +kernel
theorem dX12_choice_40 : decode cX12_choice 40 = .ok (.ifCond .ne 5, 3) := by decide +kernel
theorem dX12_choice_43 : decode cX12_choice 43 = .ok (.iconst (-1), 1) := by decide +kernel
theorem dX12_choice_44 : decode cX12_choice 44 = .ok (.ireturn, 1) := by decide +kernel
theorem dX12_choice_45 : decode cX12_choice 45 = .ok (.iconst (-1), 1) := by decide +kernel
theorem dX12_choice_46 : decode cX12_choice 46 = .ok (.istore 5, 2) := by decide +kernel
theorem dX12_choice_48 : decode cX12_choice 48 = .ok (.iconst 0, 1) := by decide +kernel
theorem dX12_choice_49 : decode cX12_choice 49 = .ok (.istore 6, 2) := by decide +kernel
theorem dX12_choice_51 : decode cX12_choice 51 = .ok (.iconst 1, 1) := by decide +kernel
theorem dX12_choice_52 : decode cX12_choice 52 = .ok (.istore 7, 2) := by decide +kernel
theorem dX12_choice_54 : decode cX12_choice 54 = .ok (.iload 7, 2) := by decide +kernel
theorem dX12_choice_56 : decode cX12_choice 56 = .ok (.iconst 1, 1) := by decide +kernel
theorem dX12_choice_57 : decode cX12_choice 57 = .ok (.aload_n 0, 1) := by decide +kernel
theorem dX12_choice_58 : decode cX12_choice 58 = .ok (.getfield 49, 3) := by decide +kernel
theorem dX12_choice_61 : decode cX12_choice 61 = .ok (.iload_n 1, 1) := by decide +kernel
theorem dX12_choice_62 : decode cX12_choice 62 = .ok (.iaload, 1) := by decide +kernel
theorem dX12_choice_63 : decode cX12_choice 63 = .ok (.ishl, 1) := by decide +kernel
theorem dX12_choice_64 : decode cX12_choice 64 = .ok (.if_icmp .ge 49, 3) := by decide +kernel
theorem dX12_choice_67 : decode cX12_choice 67 = .ok (.iload 7, 2) := by decide +kernel
theorem dX12_choice_69 : decode cX12_choice 69 = .ok (.invokestatic 305, 3) := by decide +kernel
theorem dX12_choice_72 : decode cX12_choice 72 = .ok (.iload_n 2, 1) := by decide +kernel
theorem dX12_choice_73 : decode cX12_choice 73 = .ok (.if_icmp .ne 34, 3) := by decide +kernel
theorem dX12_choice_76 : decode cX12_choice 76 = .ok (.aload_n 0, 1) := by decide +kernel
theorem dX12_choice_77 : decode cX12_choice 77 = .ok (.iload_n 1, 1) := by decide +kernel
theorem dX12_choice_78 : decode cX12_choice 78 = .ok (.iload 7, 2) := by decide +kernel
theorem dX12_choice_80 : decode cX12_choice 80 = .ok (.iload_n 3, 1) := by decide +kernel
theorem dX12_choice_81 : decode cX12_choice 81 = .ok (.invokevirtual 323, 3) := by decide +kernel
theorem dX12_choice_84 : decode cX12_choice 84 = .ok (.istore 8, 2) := by decide +kernel
theorem dX12_choice_86 : decode cX12_choice 86 = .ok (.iload 5, 2) := by decide +kernel
theorem dX12_choice_88 : decode cX12_choice 88 = .ok (.iconst (-1), 1) := by decide +kernel
theorem dX12_choice_89 : decode cX12_choice 89 = .ok (.if_icmp .eq 10, 3) := by decide +kernel
theorem dX12_choice_92 : decode cX12_choice 92 = .ok (.iload 8, 2) := by decide +kernel
theorem dX12_choice_94 : decode cX12_choice 94 = .ok (.iload 6, 2) := by decide +kernel
theorem dX12_choice_96 : decode cX12_choice 96 = .ok (.if_icmp .le 11, 3) := by decide +kernel
theorem dX12_choice_99 : decode cX12_choice 99 = .ok (.iload 7, 2) := by decide +kernel
theorem dX12_choice_101 : decode cX12_choice 101 = .ok (.istore 5, 2) := by decide +kernel
theorem dX12_choice_103 : decode cX12_choice 103 = .ok (.iload 8, 2) := by decide +kernel
theorem dX12_choice_105 : decode cX12_choice 105 = .ok (.istore 6, 2) := by decide +kernel
theorem dX12_choice_107 : decode cX12_choice 107 = .ok (.iinc 7 1, 3) := by decide +kernel
theorem dX12_choice_110 : decode cX12_choice 110 = .ok (.goto (-56), 3) := by decide +kernel
theorem dX12_choice_113 : decode cX12_choice 113 = .ok (.iload 4, 2) := by decide +kernel
theorem dX12_choice_115 : decode cX12_choice 115 = .ok (.ifCond .ne 8, 3) := by decide +kernel
theorem dX12_choice_118 : decode cX12_choice 118 = .ok (.iload 5, 2) := by decide +kernel
theorem dX12_choice_120 : decode cX12_choice 120 = .ok (.goto 5, 3) := by decide +kernel
theorem dX12_choice_123 : decode cX12_choice 123 = .ok (.iload 6, 2) := by decide +kernel
theorem dX12_choice_125 : decode cX12_choice 125 = .ok (.ireturn, 1) := by decide +kernel
theorem dX12_read_0 : decode cX12_read 0 = .ok (.iload_n 1, 1) := by decide +kernel
theorem dX12_read_1 : decode cX12_read 1 = .ok (.iconst 0, 1) := by decide +kernel
theorem dX12_read_2 : decode cX12_read 2 = .ok (.bipush 7, 2) := by decide +kernel
theorem dX12_read_4 : decode cX12_read 4 = .ok (.invokestatic 219, 3) := by decide +kernel
theorem dX12_read_7 : decode cX12_read 7 = .ok (.ifCond .eq 13, 3) := by decide +kernel
theorem dX12_read_10 : decode cX12_read 10 = .ok (.iload_n 2, 1) := by decide +kernel
theorem dX12_read_11 : decode cX12_read 11 = .ok (.iconst (-1), 1) := by decide +kernel
theorem dX12_read_12 : decode cX12_read 12 = .ok (.bipush 98, 2) := by decide +kernel
theorem dX12_read_14 : decode cX12_read 14 = .ok (.invokestatic 219, 3) := by decide +kernel
theorem dX12_read_17 : decode cX12_read 17 = .ok (.ifCond .ne 5, 3) := by decide +kernel
theorem dX12_read_20 : decode cX12_read 20 = .ok (.iconst 0, 1) := by decide +kernel
theorem dX12_read_21 : decode cX12_read 21 = .ok (.ireturn, 1) := by decide +kernel
theorem dX12_read_22 : decode cX12_read 22 = .ok (.aload_n 0, 1) := by decide +kernel
theorem dX12_read_23 : decode cX12_read 23 = .ok (.getfield 74, 3) := by decide +kernel
theorem dX12_read_26 : decode cX12_read 26 = .ok (.iload_n 1, 1) := by decide +kernel
theorem dX12_read_27 : decode cX12_read 27 = .ok (.iload_n 2, 1) := by decide +kernel
theorem dX12_read_28 : decode cX12_read 28 = .ok (.iastore, 1) := by decide +kernel
theorem dX12_read_29 : decode cX12_read 29 = .ok (.iconst 1, 1) := by decide +kernel
theorem dX12_read_30 : decode cX12_read 30 = .ok (.ireturn, 1) := by decide +kernel
theorem dX12_areReadings_0 : decode cX12_areReadings 0 = .ok (.iconst 0, 1) := by decide +kernel
theorem dX12_areReadings_1 : decode cX12_areReadings 1 = .ok (.istore_n 2, 1) := by decide +kernel
theorem dX12_areReadings_2 : decode cX12_areReadings 2 = .ok (.iload_n 2, 1) := by decide +kernel
theorem dX12_areReadings_3 : decode cX12_areReadings 3 = .ok (.bipush 8, 2) := by decide +kernel
theorem dX12_areReadings_5 : decode cX12_areReadings 5 = .ok (.if_icmp .ge 51, 3) := by decide +kernel
theorem dX12_areReadings_8 : decode cX12_areReadings 8 = .ok (.aload_n 0, 1) := by decide +kernel
theorem dX12_areReadings_9 : decode cX12_areReadings 9 = .ok (.getfield 74, 3) := by decide +kernel
theorem dX12_areReadings_12 : decode cX12_areReadings 12 = .ok (.iload_n 2, 1) := by decide +kernel
theorem dX12_areReadings_13 : decode cX12_areReadings 13 = .ok (.iaload, 1) := by decide +kernel
theorem dX12_areReadings_14 : decode cX12_areReadings 14 = .ok (.iconst (-1), 1) := by decide +kernel
theorem dX12_areReadings_15 : decode cX12_areReadings 15 = .ok (.if_icmp .eq 35, 3) := by decide +kernel
theorem dX12_areReadings_18 : decode cX12_areReadings 18 = .ok (.iload_n 2, 1) := by decide +kernel
theorem dX12_areReadings_19 : decode cX12_areReadings 19 = .ok (.aload_n 0, 1) := by decide +kernel
theorem dX12_areReadings_20 : decode cX12_areReadings 20 = .ok (.getfield 49, 3) := by decide +kernel
theorem dX12_areReadings_23 : decode cX12_areReadings 23 = .ok (.iload_n 1, 1) := by decide +kernel
theorem dX12_areReadings_24 : decode cX12_areReadings 24 = .ok (.iaload, 1) := by decide +kernel
theorem dX12_areReadings_25 : decode cX12_areReadings 25 = .ok (.if_icmp .ge 23, 3) := by decide +kernel
theorem dX12_areReadings_28 : decode cX12_areReadings 28 = .ok (.aload_n 0, 1) := by decide +kernel
theorem dX12_areReadings_29 : decode cX12_areReadings 29 = .ok (.getfield 74, 3) := by decide +kernel
theorem dX12_areReadings_32 : decode cX12_areReadings 32 = .ok (.iload_n 2, 1) := by decide +kernel
theorem dX12_areReadings_33 : decode cX12_areReadings 33 = .ok (.iaload, 1) := by decide +kernel
theorem dX12_areReadings_34 : decode cX12_areReadings 34 = .ok (.aload_n 0, 1) := by decide +kernel
theorem dX12_areReadings_35 : decode cX12_areReadings 35 = .ok (.getfield 46, 3) := by decide +kernel
theorem dX12_areReadings_38 : decode cX12_areReadings 38 = .ok (.bipush 8, 2) := by decide +kernel
theorem dX12_areReadings_40 : decode cX12_areReadings 40 = .ok (.iload_n 1, 1) := by decide +kernel
theorem dX12_areReadings_41 : decode cX12_areReadings 41 = .ok (.imul, 1) := by decide +kernel
theorem dX12_areReadings_42 : decode cX12_areReadings 42 = .ok (.iload_n 2, 1) := by decide +kernel
theorem dX12_areReadings_43 : decode cX12_areReadings 43 = .ok (.iadd, 1) := by decide +kernel
theorem dX12_areReadings_44 : decode cX12_areReadings 44 = .ok (.iaload, 1) := by decide +kernel
theorem dX12_areReadings_45 : decode cX12_areReadings 45 = .ok (.if_icmp .lt 5, 3) := by decide +kernel
theorem dX12_areReadings_48 : decode cX12_areReadings 48 = .ok (.iconst 0, 1) := by decide +kernel
theorem dX12_areReadings_49 : decode cX12_areReadings 49 = .ok (.ireturn, 1) := by decide +kernel
theorem dX12_areReadings_50 : decode cX12_areReadings 50 = .ok (.iinc 2 1, 3) := by decide +kernel
theorem dX12_areReadings_53 : decode cX12_areReadings 53 = .ok (.goto (-51), 3) := by decide +kernel
theorem dX12_areReadings_56 : decode cX12_areReadings 56 = .ok (.iconst 1, 1) := by decide +kernel
theorem dX12_areReadings_57 : decode cX12_areReadings 57 = .ok (.ireturn, 1) := by decide +kernel
theorem dX12_offs_0 : decode cX12_offs 0 = .ok (.iconst 0, 1) := by decide +kernel
theorem dX12_offs_1 : decode cX12_offs 1 = .ok (.istore 4, 2) := by decide +kernel
theorem dX12_offs_3 : decode cX12_offs 3 = .ok (.iconst 0, 1) := by decide +kernel
theorem dX12_offs_4 : decode cX12_offs 4 = .ok (.istore 5, 2) := by decide +kernel
theorem dX12_offs_6 : decode cX12_offs 6 = .ok (.iload 5, 2) := by decide +kernel
theorem dX12_offs_8 : decode cX12_offs 8 = .ok (.aload_n 0, 1) := by decide +kernel
theorem dX12_offs_9 : decode cX12_offs 9 = .ok (.getfield 49, 3) := by decide +kernel
theorem dX12_offs_12 : decode cX12_offs 12 = .ok (.iload_n 1, 1) := by decide +kernel
theorem dX12_offs_13 : decode cX12_offs 13 = .ok (.iaload, 1) := by decide +kernel
theorem dX12_offs_14 : decode cX12_offs 14 = .ok (.if_icmp .ge 79, 3) := by decide +kernel
theorem dX12_offs_17 : decode cX12_offs 17 = .ok (.aload_n 0, 1) := by decide +kernel
theorem dX12_offs_18 : decode cX12_offs 18 = .ok (.getfield 46, 3) := by decide +kernel
theorem dX12_offs_21 : decode cX12_offs 21 = .ok (.bipush 8, 2) := by decide +kernel
theorem dX12_offs_23 : decode cX12_offs 23 = .ok (.iload_n 1, 1) := by decide +kernel
theorem dX12_offs_24 : decode cX12_offs 24 = .ok (.imul, 1) := by decide +kernel
theorem dX12_offs_25 : decode cX12_offs 25 = .ok (.iload 5, 2) := by decide +kernel
theorem dX12_offs_27 : decode cX12_offs 27 = .ok (.iadd, 1) := by decide +kernel
theorem dX12_offs_28 : decode cX12_offs 28 = .ok (.iaload, 1) := by decide +kernel
theorem dX12_offs_29 : decode cX12_offs 29 = .ok (.istore 6, 2) := by decide +kernel
theorem dX12_offs_31 : decode cX12_offs 31 = .ok (.aload_n 0, 1) := by decide +kernel
theorem dX12_offs_32 : decode cX12_offs 32 = .ok (.getfield 74, 3) := by decide +kernel
theorem dX12_offs_35 : decode cX12_offs 35 = .ok (.iload 5, 2) := by decide +kernel
theorem dX12_offs_37 : decode cX12_offs 37 = .ok (.iaload, 1) := by decide +kernel
theorem dX12_offs_38 : decode cX12_offs 38 = .ok (.iconst (-1), 1) := by decide +kernel
theorem dX12_offs_39 : decode cX12_offs 39 = .ok (.if_icmp .ne 7, 3) := by decide +kernel
theorem dX12_offs_42 : decode cX12_offs 42 = .ok (.iconst 0, 1) := by decide +kernel
theorem dX12_offs_43 : decode cX12_offs 43 = .ok (.goto 18, 3) := by decide +kernel
theorem dX12_offs_46 : decode cX12_offs 46 = .ok (.iload_n 2, 1) := by decide +kernel
theorem dX12_offs_47 : decode cX12_offs 47 = .ok (.iload 6, 2) := by decide +kernel
theorem dX12_offs_49 : decode cX12_offs 49 = .ok (.irem, 1) := by decide +kernel
theorem dX12_offs_50 : decode cX12_offs 50 = .ok (.aload_n 0, 1) := by decide +kernel
theorem dX12_offs_51 : decode cX12_offs 51 = .ok (.getfield 74, 3) := by decide +kernel
theorem dX12_offs_54 : decode cX12_offs 54 = .ok (.iload 5, 2) := by decide +kernel
theorem dX12_offs_56 : decode cX12_offs 56 = .ok (.iaload, 1) := by decide +kernel
theorem dX12_offs_57 : decode cX12_offs 57 = .ok (.isub, 1) := by decide +kernel
theorem dX12_offs_58 : decode cX12_offs 58 = .ok (.invokestatic 326, 3) := by decide +kernel
theorem dX12_offs_61 : decode cX12_offs 61 = .ok (.istore 7, 2) := by decide +kernel
theorem dX12_offs_63 : decode cX12_offs 63 = .ok (.iload 4, 2) := by decide +kernel
theorem dX12_offs_65 : decode cX12_offs 65 = .ok (.iload 7, 2) := by decide +kernel
theorem dX12_offs_67 : decode cX12_offs 67 = .ok (.iload 6, 2) := by decide +kernel
theorem dX12_offs_69 : decode cX12_offs 69 = .ok (.iload 7, 2) := by decide +kernel
theorem dX12_offs_71 : decode cX12_offs 71 = .ok (.isub, 1) := by decide +kernel
theorem dX12_offs_72 : decode cX12_offs 72 = .ok (.invokestatic 257, 3) := by decide +kernel
theorem dX12_offs_75 : decode cX12_offs 75 = .ok (.iload_n 3, 1) := by decide +kernel
theorem dX12_offs_76 : decode cX12_offs 76 = .ok (.if_icmp .le 7, 3) := by decide +kernel
theorem dX12_offs_79 : decode cX12_offs 79 = .ok (.iconst 1, 1) := by decide +kernel
theorem dX12_offs_80 : decode cX12_offs 80 = .ok (.goto 4, 3) := by decide +kernel
theorem dX12_offs_83 : decode cX12_offs 83 = .ok (.iconst 0, 1) := by decide +kernel
theorem dX12_offs_84 : decode cX12_offs 84 = .ok (.iadd, 1) := by decide +kernel
theorem dX12_offs_85 : decode cX12_offs 85 = .ok (.istore 4, 2) := by decide +kernel
theorem dX12_offs_87 : decode cX12_offs 87 = .ok (.iinc 5 1, 3) := by decide +kernel
theorem dX12_offs_90 : decode cX12_offs 90 = .ok (.goto (-84), 3) := by decide +kernel
theorem dX12_offs_93 : decode cX12_offs 93 = .ok (.iload 4, 2) := by decide +kernel
theorem dX12_offs_95 : decode cX12_offs 95 = .ok (.ireturn, 1) := by decide +kernel
theorem dX12_unfold_0 : decode cX12_unfold 0 = .ok (.aload_n 0, 1) := by decide +kernel
theorem dX12_unfold_1 : decode cX12_unfold 1 = .ok (.iload_n 1, 1) := by decide +kernel
theorem dX12_unfold_2 : decode cX12_unfold 2 = .ok (.invokevirtual 247, 3) := by decide +kernel
theorem dX12_unfold_5 : decode cX12_unfold 5 = .ok (.ifCond .eq 41, 3) := by decide +kernel
theorem dX12_unfold_8 : decode cX12_unfold 8 = .ok (.iload_n 2, 1) := by decide +kernel
theorem dX12_unfold_9 : decode cX12_unfold 9 = .ok (.iconst 0, 1) := by decide +kernel
theorem dX12_unfold_10 : decode cX12_unfold 10 = .ok (.sipush 999, 3) := by decide +kernel
theorem dX12_unfold_13 : decode cX12_unfold 13 = .ok (.invokestatic 219, 3) := by decide +kernel
theorem dX12_unfold_16 : decode cX12_unfold 16 = .ok (.ifCond .eq 30, 3) := by decide +kernel
theorem dX12_unfold_19 : decode cX12_unfold 19 = .ok (.iload_n 3, 1) := by decide +kernel
theorem dX12_unfold_20 : decode cX12_unfold 20 = .ok (.iconst 0, 1) := by decide +kernel
theorem dX12_unfold_21 : decode cX12_unfold 21 = .ok (.bipush 8, 2) := by decide +kernel
theorem dX12_unfold_23 : decode cX12_unfold 23 = .ok (.invokestatic 219, 3) := by decide +kernel
theorem dX12_unfold_26 : decode cX12_unfold 26 = .ok (.ifCond .eq 20, 3) := by decide +kernel
theorem dX12_unfold_29 : decode cX12_unfold 29 = .ok (.iload 4, 2) := by decide +kernel
theorem dX12_unfold_31 : decode cX12_unfold 31 = .ok (.iconst 0, 1) := by decide +kernel
theorem dX12_unfold_32 : decode cX12_unfold 32 = .ok (.bipush 9, 2) := by decide +kernel
theorem dX12_unfold_34 : decode cX12_unfold 34 = .ok (.invokestatic 219, 3) := by decide +kernel
theorem dX12_unfold_37 : decode cX12_unfold 37 = .ok (.ifCond .eq 9, 3) := by decide +kernel
theorem dX12_unfold_40 : decode cX12_unfold 40 = .ok (.iload 5, 2) := by decide +kernel
theorem dX12_unfold_42 : decode cX12_unfold 42 = .ok (.iconst (-1), 1) := by decide +kernel
theorem dX12_unfold_43 : decode cX12_unfold 43 = .ok (.if_icmp .ge 5, 3) := by decide +kernel
theorem dX12_unfold_46 : decode cX12_unfold 46 = .ok (.iconst (-1), 1) := by decide +kernel
theorem dX12_unfold_47 : decode cX12_unfold 47 = .ok (.ireturn, 1) := by decide +kernel
theorem dX12_unfold_48 : decode cX12_unfold 48 = .ok (.aload_n 0, 1) := by decide +kernel
theorem dX12_unfold_49 : decode cX12_unfold 49 = .ok (.iload_n 1, 1) := by decide +kernel
theorem dX12_unfold_50 : decode cX12_unfold 50 = .ok (.invokevirtual 329, 3) := by decide +kernel
theorem dX12_unfold_53 : decode cX12_unfold 53 = .ok (.ifCond .ne 7, 3) := by decide +kernel
theorem dX12_unfold_56 : decode cX12_unfold 56 = .ok (.ldc_w 268, 3) := by decide +kernel
theorem dX12_unfold_59 : decode cX12_unfold 59 = .ok (.ireturn, 1) := by decide +kernel
theorem dX12_unfold_60 : decode cX12_unfold 60 = .ok (.iconst 0, 1) := by decide +kernel
theorem dX12_unfold_61 : decode cX12_unfold 61 = .ok (.istore 6, 2) := by decide +kernel
theorem dX12_unfold_63 : decode cX12_unfold 63 = .ok (.iconst (-1), 1) := by decide +kernel
theorem dX12_unfold_64 : decode cX12_unfold 64 = .ok (.istore 7, 2) := by decide +kernel
theorem dX12_unfold_66 : decode cX12_unfold 66 = .ok (.iconst 0, 1) := by decide +kernel
theorem dX12_unfold_67 : decode cX12_unfold 67 = .ok (.istore 8, 2) := by decide +kernel
theorem dX12_unfold_69 : decode cX12_unfold 69 = .ok (.iload 8, 2) := by decide +kernel
theorem dX12_unfold_71 : decode cX12_unfold 71 = .ok (.iload_n 2, 1) := by decide +kernel
theorem dX12_unfold_72 : decode cX12_unfold 72 = .ok (.if_icmp .gt 41, 3) := by decide +kernel
theorem dX12_unfold_75 : decode cX12_unfold 75 = .ok (.aload_n 0, 1) := by decide +kernel
theorem dX12_unfold_76 : decode cX12_unfold 76 = .ok (.iload_n 1, 1) := by decide +kernel
theorem dX12_unfold_77 : decode cX12_unfold 77 = .ok (.iload 8, 2) := by decide +kernel
theorem dX12_unfold_79 : decode cX12_unfold 79 = .ok (.iload 4, 2) := by decide +kernel
theorem dX12_unfold_81 : decode cX12_unfold 81 = .ok (.invokevirtual 332, 3) := by decide +kernel
theorem dX12_unfold_84 : decode cX12_unfold 84 = .ok (.iload_n 3, 1) := by decide +kernel
theorem dX12_unfold_85 : decode cX12_unfold 85 = .ok (.if_icmp .gt 22, 3) := by decide +kernel
theorem dX12_unfold_88 : decode cX12_unfold 88 = .ok (.iload 6, 2) := by decide +kernel
theorem dX12_unfold_90 : decode cX12_unfold 90 = .ok (.iload 5, 2) := by decide +kernel
theorem dX12_unfold_92 : decode cX12_unfold 92 = .ok (.if_icmp .ne 8, 3) := by decide +kernel
theorem dX12_unfold_95 : decode cX12_unfold 95 = .ok (.iload 8, 2) := by decide +kernel
theorem dX12_unfold_97 : decode cX12_unfold 97 = .ok (.goto 5, 3) := by decide +kernel
theorem dX12_unfold_100 : decode cX12_unfold 100 = .ok (.iload 7, 2) := by decide +kernel
theorem dX12_unfold_102 : decode cX12_unfold 102 = .ok (.istore 7, 2) := by decide +kernel
theorem dX12_unfold_104 : decode cX12_unfold 104 = .ok (.iinc 6 1, 3) := by decide +kernel
theorem dX12_unfold_107 : decode cX12_unfold 107 = .ok (.iinc 8 1, 3) := by decide +kernel
theorem dX12_unfold_110 : decode cX12_unfold 110 = .ok (.goto (-41), 3) := by decide +kernel
theorem dX12_unfold_113 : decode cX12_unfold 113 = .ok (.iload 5, 2) := by decide +kernel
theorem dX12_unfold_115 : decode cX12_unfold 115 = .ok (.iconst (-1), 1) := by decide +kernel
theorem dX12_unfold_116 : decode cX12_unfold 116 = .ok (.if_icmp .ne 8, 3) := by decide +kernel
theorem dX12_unfold_119 : decode cX12_unfold 119 = .ok (.iload 6, 2) := by decide +kernel
theorem dX12_unfold_121 : decode cX12_unfold 121 = .ok (.goto 5, 3) := by decide +kernel
theorem dX12_unfold_124 : decode cX12_unfold 124 = .ok (.iload 7, 2) := by decide +kernel
theorem dX12_unfold_126 : decode cX12_unfold 126 = .ok (.ireturn, 1) := by decide +kernel
theorem dX12_isGhost_0 : decode cX12_isGhost 0 = .ok (.iconst 0, 1) := by decide +kernel
theorem dX12_isGhost_1 : decode cX12_isGhost 1 = .ok (.istore 5, 2) := by decide +kernel
theorem dX12_isGhost_3 : decode cX12_isGhost 3 = .ok (.iload 5, 2) := by decide +kernel
theorem dX12_isGhost_5 : decode cX12_isGhost 5 = .ok (.aload_n 0, 1) := by decide +kernel
theorem dX12_isGhost_6 : decode cX12_isGhost 6 = .ok (.getfield 49, 3) := by decide +kernel
theorem dX12_isGhost_9 : decode cX12_isGhost 9 = .ok (.iload_n 1, 1) := by decide +kernel
theorem dX12_isGhost_10 : decode cX12_isGhost 10 = .ok (.iaload, 1) := by decide +kernel
theorem dX12_isGhost_11 : decode cX12_isGhost 11 = .ok (.if_icmp .ge 49, 3) := by decide +kernel
theorem dX12_isGhost_14 : decode cX12_isGhost 14 = .ok (.aload_n 0, 1) := by decide +kernel
theorem dX12_isGhost_15 : decode cX12_isGhost 15 = .ok (.getfield 46, 3) := by decide +kernel
theorem dX12_isGhost_18 : decode cX12_isGhost 18 = .ok (.bipush 8, 2) := by decide +kernel
theorem dX12_isGhost_20 : decode cX12_isGhost 20 = .ok (.iload_n 1, 1) := by decide +kernel
theorem dX12_isGhost_21 : decode cX12_isGhost 21 = .ok (.imul, 1) := by decide +kernel
theorem dX12_isGhost_22 : decode cX12_isGhost 22 = .ok (.iload 5, 2) := by decide +kernel
theorem dX12_isGhost_24 : decode cX12_isGhost 24 = .ok (.iadd, 1) := by decide +kernel
theorem dX12_isGhost_25 : decode cX12_isGhost 25 = .ok (.iaload, 1) := by decide +kernel
theorem dX12_isGhost_26 : decode cX12_isGhost 26 = .ok (.istore 6, 2) := by decide +kernel
theorem dX12_isGhost_28 : decode cX12_isGhost 28 = .ok (.iload 4, 2) := by decide +kernel
theorem dX12_isGhost_30 : decode cX12_isGhost 30 = .ok (.iload 6, 2) := by decide +kernel
theorem dX12_isGhost_32 : decode cX12_isGhost 32 = .ok (.irem, 1) := by decide +kernel
theorem dX12_isGhost_33 : decode cX12_isGhost 33 = .ok (.iload_n 2, 1) := by decide +kernel
theorem dX12_isGhost_34 : decode cX12_isGhost 34 = .ok (.iload 6, 2) := by decide +kernel
theorem dX12_isGhost_36 : decode cX12_isGhost 36 = .ok (.irem, 1) := by decide +kernel
theorem dX12_isGhost_37 : decode cX12_isGhost 37 = .ok (.if_icmp .eq 17, 3) := by decide +kernel
theorem dX12_isGhost_40 : decode cX12_isGhost 40 = .ok (.iload 4, 2) := by decide +kernel
theorem dX12_isGhost_42 : decode cX12_isGhost 42 = .ok (.iload 6, 2) := by decide +kernel
theorem dX12_isGhost_44 : decode cX12_isGhost 44 = .ok (.irem, 1) := by decide +kernel
theorem dX12_isGhost_45 : decode cX12_isGhost 45 = .ok (.iload_n 3, 1) := by decide +kernel
theorem dX12_isGhost_46 : decode cX12_isGhost 46 = .ok (.iload 6, 2) := by decide +kernel
theorem dX12_isGhost_48 : decode cX12_isGhost 48 = .ok (.irem, 1) := by decide +kernel
theorem dX12_isGhost_49 : decode cX12_isGhost 49 = .ok (.if_icmp .eq 5, 3) := by decide +kernel
theorem dX12_isGhost_52 : decode cX12_isGhost 52 = .ok (.iconst 0, 1) := by decide +kernel
theorem dX12_isGhost_53 : decode cX12_isGhost 53 = .ok (.ireturn, 1) := by decide +kernel
theorem dX12_isGhost_54 : decode cX12_isGhost 54 = .ok (.iinc 5 1, 3) := by decide +kernel
theorem dX12_isGhost_57 : decode cX12_isGhost 57 = .ok (.goto (-54), 3) := by decide +kernel
theorem dX12_isGhost_60 : decode cX12_isGhost 60 = .ok (.iload 4, 2) := by decide +kernel
theorem dX12_isGhost_62 : decode cX12_isGhost 62 = .ok (.iload_n 2, 1) := by decide +kernel
theorem dX12_isGhost_63 : decode cX12_isGhost 63 = .ok (.if_icmp .eq 13, 3) := by decide +kernel
theorem dX12_isGhost_66 : decode cX12_isGhost 66 = .ok (.iload 4, 2) := by decide +kernel
theorem dX12_isGhost_68 : decode cX12_isGhost 68 = .ok (.iload_n 3, 1) := by decide +kernel
theorem dX12_isGhost_69 : decode cX12_isGhost 69 = .ok (.if_icmp .eq 7, 3) := by decide +kernel
theorem dX12_isGhost_72 : decode cX12_isGhost 72 = .ok (.iconst 1, 1) := by decide +kernel
theorem dX12_isGhost_73 : decode cX12_isGhost 73 = .ok (.goto 4, 3) := by decide +kernel
theorem dX12_isGhost_76 : decode cX12_isGhost 76 = .ok (.iconst 0, 1) := by decide +kernel
theorem dX12_isGhost_77 : decode cX12_isGhost 77 = .ok (.ireturn, 1) := by decide +kernel
theorem dX12_ghosts_0 : decode cX12_ghosts 0 = .ok (.aload_n 0, 1) := by decide +kernel
theorem dX12_ghosts_1 : decode cX12_ghosts 1 = .ok (.iload_n 1, 1) := by decide +kernel
theorem dX12_ghosts_2 : decode cX12_ghosts 2 = .ok (.invokevirtual 247, 3) := by decide +kernel
theorem dX12_ghosts_5 : decode cX12_ghosts 5 = .ok (.ifCond .eq 37, 3) := by decide +kernel
theorem dX12_ghosts_8 : decode cX12_ghosts 8 = .ok (.iload_n 2, 1) := by decide +kernel
theorem dX12_ghosts_9 : decode cX12_ghosts 9 = .ok (.iconst 0, 1) := by decide +kernel
theorem dX12_ghosts_10 : decode cX12_ghosts 10 = .ok (.sipush 999, 3) := by decide +kernel
theorem dX12_ghosts_13 : decode cX12_ghosts 13 = .ok (.invokestatic 219, 3) := by decide +kernel
theorem dX12_ghosts_16 : decode cX12_ghosts 16 = .ok (.ifCond .eq 26, 3) := by decide +kernel
theorem dX12_ghosts_19 : decode cX12_ghosts 19 = .ok (.iload_n 3, 1) := by decide +kernel
theorem dX12_ghosts_20 : decode cX12_ghosts 20 = .ok (.iconst 0, 1) := by decide +kernel
theorem dX12_ghosts_21 : decode cX12_ghosts 21 = .ok (.sipush 999, 3) := by decide +kernel
theorem dX12_ghosts_24 : decode cX12_ghosts 24 = .ok (.invokestatic 219, 3) := by decide +kernel
theorem dX12_ghosts_27 : decode cX12_ghosts 27 = .ok (.ifCond .eq 15, 3) := by decide +kernel
theorem dX12_ghosts_30 : decode cX12_ghosts 30 = .ok (.iload 4, 2) := by decide +kernel
theorem dX12_ghosts_32 : decode cX12_ghosts 32 = .ok (.iconst 0, 1) := by decide +kernel
theorem dX12_ghosts_33 : decode cX12_ghosts 33 = .ok (.sipush 999, 3) := by decide +kernel
theorem dX12_ghosts_36 : decode cX12_ghosts 36 = .ok (.invokestatic 219, 3) := by decide +kernel
theorem dX12_ghosts_39 : decode cX12_ghosts 39 = .ok (.ifCond .ne 5, 3) := by decide +kernel
theorem dX12_ghosts_42 : decode cX12_ghosts 42 = .ok (.iconst (-1), 1) := by decide +kernel
theorem dX12_ghosts_43 : decode cX12_ghosts 43 = .ok (.ireturn, 1) := by decide +kernel
theorem dX12_ghosts_44 : decode cX12_ghosts 44 = .ok (.iconst 0, 1) := by decide +kernel
theorem dX12_ghosts_45 : decode cX12_ghosts 45 = .ok (.istore 5, 2) := by decide +kernel
theorem dX12_ghosts_47 : decode cX12_ghosts 47 = .ok (.iconst 0, 1) := by decide +kernel
theorem dX12_ghosts_48 : decode cX12_ghosts 48 = .ok (.istore 6, 2) := by decide +kernel
theorem dX12_ghosts_50 : decode cX12_ghosts 50 = .ok (.iload 6, 2) := by decide +kernel
theorem dX12_ghosts_52 : decode cX12_ghosts 52 = .ok (.iload 4, 2) := by decide +kernel
theorem dX12_ghosts_54 : decode cX12_ghosts 54 = .ok (.if_icmp .gt 31, 3) := by decide +kernel
theorem dX12_ghosts_57 : decode cX12_ghosts 57 = .ok (.iload 5, 2) := by decide +kernel
theorem dX12_ghosts_59 : decode cX12_ghosts 59 = .ok (.aload_n 0, 1) := by decide +kernel
theorem dX12_ghosts_60 : decode cX12_ghosts 60 = .ok (.iload_n 1, 1) := by decide +kernel
theorem dX12_ghosts_61 : decode cX12_ghosts 61 = .ok (.iload_n 2, 1) := by decide +kernel
theorem dX12_ghosts_62 : decode cX12_ghosts 62 = .ok (.iload_n 3, 1) := by decide +kernel
theorem dX12_ghosts_63 : decode cX12_ghosts 63 = .ok (.iload 6, 2) := by decide +kernel
theorem dX12_ghosts_65 : decode cX12_ghosts 65 = .ok (.invokevirtual 335, 3) := by decide +kernel
theorem dX12_ghosts_68 : decode cX12_ghosts 68 = .ok (.ifCond .eq 7, 3) := by decide +kernel
theorem dX12_ghosts_71 : decode cX12_ghosts 71 = .ok (.iconst 1, 1) := by decide +kernel
theorem dX12_ghosts_72 : decode cX12_ghosts 72 = .ok (.goto 4, 3) := by decide +kernel
theorem dX12_ghosts_75 : decode cX12_ghosts 75 = .ok (.iconst 0, 1) := by decide +kernel
theorem dX12_ghosts_76 : decode cX12_ghosts 76 = .ok (.iadd, 1) := by decide +kernel
theorem dX12_ghosts_77 : decode cX12_ghosts 77 = .ok (.istore 5, 2) := by decide +kernel
theorem dX12_ghosts_79 : decode cX12_ghosts 79 = .ok (.iinc 6 1, 3) := by decide +kernel
theorem dX12_ghosts_82 : decode cX12_ghosts 82 = .ok (.goto (-32), 3) := by decide +kernel
theorem dX12_ghosts_85 : decode cX12_ghosts 85 = .ok (.iload 5, 2) := by decide +kernel
theorem dX12_ghosts_87 : decode cX12_ghosts 87 = .ok (.ireturn, 1) := by decide +kernel
theorem dX12_copy_0 : decode cX12_copy 0 = .ok (.iconst 0, 1) := by decide +kernel
theorem dX12_copy_1 : decode cX12_copy 1 = .ok (.istore 4, 2) := by decide +kernel
theorem dX12_copy_3 : decode cX12_copy 3 = .ok (.iload 4, 2) := by decide +kernel
theorem dX12_copy_5 : decode cX12_copy 5 = .ok (.bipush 41, 2) := by decide +kernel
theorem dX12_copy_7 : decode cX12_copy 7 = .ok (.if_icmp .ge 21, 3) := by decide +kernel
theorem dX12_copy_10 : decode cX12_copy 10 = .ok (.aload_n 2, 1) := by decide +kernel
theorem dX12_copy_11 : decode cX12_copy 11 = .ok (.iload_n 3, 1) := by decide +kernel
theorem dX12_copy_12 : decode cX12_copy 12 = .ok (.iload 4, 2) := by decide +kernel
theorem dX12_copy_14 : decode cX12_copy 14 = .ok (.iadd, 1) := by decide +kernel
theorem dX12_copy_15 : decode cX12_copy 15 = .ok (.aload_n 0, 1) := by decide +kernel
theorem dX12_copy_16 : decode cX12_copy 16 = .ok (.iload_n 1, 1) := by decide +kernel
theorem dX12_copy_17 : decode cX12_copy 17 = .ok (.iload 4, 2) := by decide +kernel
theorem dX12_copy_19 : decode cX12_copy 19 = .ok (.iadd, 1) := by decide +kernel
theorem dX12_copy_20 : decode cX12_copy 20 = .ok (.iaload, 1) := by decide +kernel
theorem dX12_copy_21 : decode cX12_copy 21 = .ok (.iastore, 1) := by decide +kernel
theorem dX12_copy_22 : decode cX12_copy 22 = .ok (.iinc 4 1, 3) := by decide +kernel
theorem dX12_copy_25 : decode cX12_copy 25 = .ok (.goto (-22), 3) := by decide +kernel
theorem dX12_copy_28 : decode cX12_copy 28 = .ok (.return_, 1) := by decide +kernel
theorem dX12_putBy_0 : decode cX12_putBy 0 = .ok (.aload_n 0, 1) := by decide +kernel
theorem dX12_putBy_1 : decode cX12_putBy 1 = .ok (.getfield 339, 3) := by decide +kernel
theorem dX12_putBy_4 : decode cX12_putBy 4 = .ok (.bipush 30, 2) := by decide +kernel
theorem dX12_putBy_6 : decode cX12_putBy 6 = .ok (.if_icmp .ne 48, 3) := by decide +kernel
theorem dX12_putBy_9 : decode cX12_putBy 9 = .ok (.iconst 0, 1) := by decide +kernel
theorem dX12_putBy_10 : decode cX12_putBy 10 = .ok (.istore_n 1, 1) := by decide +kernel
theorem dX12_putBy_11 : decode cX12_putBy 11 = .ok (.iload_n 1, 1) := by decide +kernel
theorem dX12_putBy_12 : decode cX12_putBy 12 = .ok (.bipush 29, 2) := by decide +kernel
theorem dX12_putBy_14 : decode cX12_putBy 14 = .ok (.if_icmp .ge 30, 3) := by decide +kernel
theorem dX12_putBy_17 : decode cX12_putBy 17 = .ok (.aload_n 0, 1) := by decide +kernel
theorem dX12_putBy_18 : decode cX12_putBy 18 = .ok (.getfield 80, 3) := by decide +kernel
theorem dX12_putBy_21 : decode cX12_putBy 21 = .ok (.bipush 41, 2) := by decide +kernel
theorem dX12_putBy_23 : decode cX12_putBy 23 = .ok (.iload_n 1, 1) := by decide +kernel
theorem dX12_putBy_24 : decode cX12_putBy 24 = .ok (.iconst 1, 1) := by decide +kernel
theorem dX12_putBy_25 : decode cX12_putBy 25 = .ok (.iadd, 1) := by decide +kernel
theorem dX12_putBy_26 : decode cX12_putBy 26 = .ok (.imul, 1) := by decide +kernel
theorem dX12_putBy_27 : decode cX12_putBy 27 = .ok (.aload_n 0, 1) := by decide +kernel
theorem dX12_putBy_28 : decode cX12_putBy 28 = .ok (.getfield 80, 3) := by decide +kernel
theorem dX12_putBy_31 : decode cX12_putBy 31 = .ok (.bipush 41, 2) := by decide +kernel
theorem dX12_putBy_33 : decode cX12_putBy 33 = .ok (.iload_n 1, 1) := by decide +kernel
theorem dX12_putBy_34 : decode cX12_putBy 34 = .ok (.imul, 1) := by decide +kernel
theorem dX12_putBy_35 : decode cX12_putBy 35 = .ok (.invokestatic 342, 3) := by decide +kernel
theorem dX12_putBy_38 : decode cX12_putBy 38 = .ok (.iinc 1 1, 3) := by decide +kernel
theorem dX12_putBy_41 : decode cX12_putBy 41 = .ok (.goto (-30), 3) := by decide +kernel
theorem dX12_putBy_44 : decode cX12_putBy 44 = .ok (.aload_n 0, 1) := by decide +kernel
theorem dX12_putBy_45 : decode cX12_putBy 45 = .ok (.dup, 1) := by decide +kernel
theorem dX12_putBy_46 : decode cX12_putBy 46 = .ok (.getfield 339, 3) := by decide +kernel
theorem dX12_putBy_49 : decode cX12_putBy 49 = .ok (.iconst 1, 1) := by decide +kernel
theorem dX12_putBy_50 : decode cX12_putBy 50 = .ok (.isub, 1) := by decide +kernel
theorem dX12_putBy_51 : decode cX12_putBy 51 = .ok (.putfield 339, 3) := by decide +kernel
theorem dX12_putBy_54 : decode cX12_putBy 54 = .ok (.aload_n 0, 1) := by decide +kernel
theorem dX12_putBy_55 : decode cX12_putBy 55 = .ok (.getfield 77, 3) := by decide +kernel
theorem dX12_putBy_58 : decode cX12_putBy 58 = .ok (.iconst 0, 1) := by decide +kernel
theorem dX12_putBy_59 : decode cX12_putBy 59 = .ok (.aload_n 0, 1) := by decide +kernel
theorem dX12_putBy_60 : decode cX12_putBy 60 = .ok (.getfield 80, 3) := by decide +kernel
theorem dX12_putBy_63 : decode cX12_putBy 63 = .ok (.bipush 41, 2) := by decide +kernel
theorem dX12_putBy_65 : decode cX12_putBy 65 = .ok (.aload_n 0, 1) := by decide +kernel
theorem dX12_putBy_66 : decode cX12_putBy 66 = .ok (.getfield 339, 3) := by decide +kernel
theorem dX12_putBy_69 : decode cX12_putBy 69 = .ok (.imul, 1) := by decide +kernel
theorem dX12_putBy_70 : decode cX12_putBy 70 = .ok (.invokestatic 342, 3) := by decide +kernel
theorem dX12_putBy_73 : decode cX12_putBy 73 = .ok (.aload_n 0, 1) := by decide +kernel
theorem dX12_putBy_74 : decode cX12_putBy 74 = .ok (.dup, 1) := by decide +kernel
theorem dX12_putBy_75 : decode cX12_putBy 75 = .ok (.getfield 339, 3) := by decide +kernel
theorem dX12_putBy_78 : decode cX12_putBy 78 = .ok (.iconst 1, 1) := by decide +kernel
theorem dX12_putBy_79 : decode cX12_putBy 79 = .ok (.iadd, 1) := by decide +kernel
theorem dX12_putBy_80 : decode cX12_putBy 80 = .ok (.putfield 339, 3) := by decide +kernel
theorem dX12_putBy_83 : decode cX12_putBy 83 = .ok (.return_, 1) := by decide +kernel
theorem dX12_act_0 : decode cX12_act 0 = .ok (.aload_n 0, 1) := by decide +kernel
theorem dX12_act_1 : decode cX12_act 1 = .ok (.invokevirtual 346, 3) := by decide +kernel
theorem dX12_act_4 : decode cX12_act 4 = .ok (.aload_n 0, 1) := by decide +kernel
theorem dX12_act_5 : decode cX12_act 5 = .ok (.iconst 0, 1) := by decide +kernel
theorem dX12_act_6 : decode cX12_act 6 = .ok (.putfield 349, 3) := by decide +kernel
theorem dX12_act_9 : decode cX12_act 9 = .ok (.return_, 1) := by decide +kernel
theorem dX12_isLevel_0 : decode cX12_isLevel 0 = .ok (.iload_n 0, 1) := by decide +kernel
theorem dX12_isLevel_1 : decode cX12_isLevel 1 = .ok (.iconst 0, 1) := by decide +kernel
theorem dX12_isLevel_2 : decode cX12_isLevel 2 = .ok (.sipush 999, 3) := by decide +kernel
theorem dX12_isLevel_5 : decode cX12_isLevel 5 = .ok (.invokestatic 219, 3) := by decide +kernel
theorem dX12_isLevel_8 : decode cX12_isLevel 8 = .ok (.ireturn, 1) := by decide +kernel
theorem dX12_cell_0 : decode cX12_cell 0 = .ok (.iload_n 1, 1) := by decide +kernel
theorem dX12_cell_1 : decode cX12_cell 1 = .ok (.invokestatic 352, 3) := by decide +kernel
theorem dX12_cell_4 : decode cX12_cell 4 = .ok (.ifCond .eq 14, 3) := by decide +kernel
theorem dX12_cell_7 : decode cX12_cell 7 = .ok (.aload_n 0, 1) := by decide +kernel
theorem dX12_cell_8 : decode cX12_cell 8 = .ok (.getfield 77, 3) := by decide +kernel
theorem dX12_cell_11 : decode cX12_cell 11 = .ok (.iconst 0, 1) := by decide +kernel
theorem dX12_cell_12 : decode cX12_cell 12 = .ok (.iaload, 1) := by decide +kernel
theorem dX12_cell_13 : decode cX12_cell 13 = .ok (.bipush 40, 2) := by decide +kernel
theorem dX12_cell_15 : decode cX12_cell 15 = .ok (.if_icmp .ne 5, 3) := by decide +kernel
theorem dX12_cell_18 : decode cX12_cell 18 = .ok (.iconst (-1), 1) := by decide +kernel
theorem dX12_cell_19 : decode cX12_cell 19 = .ok (.ireturn, 1) := by decide +kernel
theorem dX12_cell_20 : decode cX12_cell 20 = .ok (.aload_n 0, 1) := by decide +kernel
theorem dX12_cell_21 : decode cX12_cell 21 = .ok (.invokevirtual 355, 3) := by decide +kernel
theorem dX12_cell_24 : decode cX12_cell 24 = .ok (.aload_n 0, 1) := by decide +kernel
theorem dX12_cell_25 : decode cX12_cell 25 = .ok (.getfield 77, 3) := by decide +kernel
theorem dX12_cell_28 : decode cX12_cell 28 = .ok (.iconst 0, 1) := by decide +kernel
theorem dX12_cell_29 : decode cX12_cell 29 = .ok (.dup2, 1) := by decide +kernel
theorem dX12_cell_30 : decode cX12_cell 30 = .ok (.iaload, 1) := by decide +kernel
theorem dX12_cell_31 : decode cX12_cell 31 = .ok (.iconst 1, 1) := by decide +kernel
theorem dX12_cell_32 : decode cX12_cell 32 = .ok (.iadd, 1) := by decide +kernel
theorem dX12_cell_33 : decode cX12_cell 33 = .ok (.iastore, 1) := by decide +kernel
theorem dX12_cell_34 : decode cX12_cell 34 = .ok (.aload_n 0, 1) := by decide +kernel
theorem dX12_cell_35 : decode cX12_cell 35 = .ok (.getfield 77, 3) := by decide +kernel
theorem dX12_cell_38 : decode cX12_cell 38 = .ok (.aload_n 0, 1) := by decide +kernel
theorem dX12_cell_39 : decode cX12_cell 39 = .ok (.getfield 77, 3) := by decide +kernel
theorem dX12_cell_42 : decode cX12_cell 42 = .ok (.iconst 0, 1) := by decide +kernel
theorem dX12_cell_43 : decode cX12_cell 43 = .ok (.iaload, 1) := by decide +kernel
theorem dX12_cell_44 : decode cX12_cell 44 = .ok (.iload_n 1, 1) := by decide +kernel
theorem dX12_cell_45 : decode cX12_cell 45 = .ok (.iastore, 1) := by decide +kernel
theorem dX12_cell_46 : decode cX12_cell 46 = .ok (.aload_n 0, 1) := by decide +kernel
theorem dX12_cell_47 : decode cX12_cell 47 = .ok (.getfield 77, 3) := by decide +kernel
theorem dX12_cell_50 : decode cX12_cell 50 = .ok (.iconst 0, 1) := by decide +kernel
theorem dX12_cell_51 : decode cX12_cell 51 = .ok (.iaload, 1) := by decide +kernel
theorem dX12_cell_52 : decode cX12_cell 52 = .ok (.ireturn, 1) := by decide +kernel
theorem dX12_isCell_0 : decode cX12_isCell 0 = .ok (.iload_n 1, 1) := by decide +kernel
theorem dX12_isCell_1 : decode cX12_isCell 1 = .ok (.iconst 0, 1) := by decide +kernel
theorem dX12_isCell_2 : decode cX12_isCell 2 = .ok (.aload_n 0, 1) := by decide +kernel
theorem dX12_isCell_3 : decode cX12_isCell 3 = .ok (.getfield 77, 3) := by decide +kernel
theorem dX12_isCell_6 : decode cX12_isCell 6 = .ok (.iconst 0, 1) := by decide +kernel
theorem dX12_isCell_7 : decode cX12_isCell 7 = .ok (.iaload, 1) := by decide +kernel
theorem dX12_isCell_8 : decode cX12_isCell 8 = .ok (.iconst 1, 1) := by decide +kernel
theorem dX12_isCell_9 : decode cX12_isCell 9 = .ok (.isub, 1) := by decide +kernel
theorem dX12_isCell_10 : decode cX12_isCell 10 = .ok (.invokestatic 219, 3) := by decide +kernel
theorem dX12_isCell_13 : decode cX12_isCell 13 = .ok (.ireturn, 1) := by decide +kernel
theorem dX12_change_0 : decode cX12_change 0 = .ok (.aload_n 0, 1) := by decide +kernel
theorem dX12_change_1 : decode cX12_change 1 = .ok (.iload_n 1, 1) := by decide +kernel
theorem dX12_change_2 : decode cX12_change 2 = .ok (.invokevirtual 358, 3) := by decide +kernel
theorem dX12_change_5 : decode cX12_change 5 = .ok (.ifCond .eq 10, 3) := by decide +kernel
theorem dX12_change_8 : decode cX12_change 8 = .ok (.iload_n 2, 1) := by decide +kernel
theorem dX12_change_9 : decode cX12_change 9 = .ok (.invokestatic 352, 3) := by decide +kernel
theorem dX12_change_12 : decode cX12_change 12 = .ok (.ifCond .ne 5, 3) := by decide +kernel
theorem dX12_change_15 : decode cX12_change 15 = .ok (.iconst 0, 1) := by decide +kernel
theorem dX12_change_16 : decode cX12_change 16 = .ok (.ireturn, 1) := by decide +kernel
theorem dX12_change_17 : decode cX12_change 17 = .ok (.aload_n 0, 1) := by decide +kernel
theorem dX12_change_18 : decode cX12_change 18 = .ok (.invokevirtual 355, 3) := by decide +kernel
theorem dX12_change_21 : decode cX12_change 21 = .ok (.aload_n 0, 1) := by decide +kernel
theorem dX12_change_22 : decode cX12_change 22 = .ok (.getfield 77, 3) := by decide +kernel
theorem dX12_change_25 : decode cX12_change 25 = .ok (.iload_n 1, 1) := by decide +kernel
theorem dX12_change_26 : decode cX12_change 26 = .ok (.iconst 1, 1) := by decide +kernel
theorem dX12_change_27 : decode cX12_change 27 = .ok (.iadd, 1) := by decide +kernel
theorem dX12_change_28 : decode cX12_change 28 = .ok (.iload_n 2, 1) := by decide +kernel
theorem dX12_change_29 : decode cX12_change 29 = .ok (.iastore, 1) := by decide +kernel
theorem dX12_change_30 : decode cX12_change 30 = .ok (.iconst 1, 1) := by decide +kernel
theorem dX12_change_31 : decode cX12_change 31 = .ok (.ireturn, 1) := by decide +kernel
theorem dX12_draw_0 : decode cX12_draw 0 = .ok (.iload_n 1, 1) := by decide +kernel
theorem dX12_draw_1 : decode cX12_draw 1 = .ok (.iconst 1, 1) := by decide +kernel
theorem dX12_draw_2 : decode cX12_draw 2 = .ok (.bipush 40, 2) := by decide +kernel
theorem dX12_draw_4 : decode cX12_draw 4 = .ok (.invokestatic 219, 3) := by decide +kernel
theorem dX12_draw_7 : decode cX12_draw 7 = .ok (.ifCond .eq 14, 3) := by decide +kernel
theorem dX12_draw_10 : decode cX12_draw 10 = .ok (.iload_n 2, 1) := by decide +kernel
theorem dX12_draw_11 : decode cX12_draw 11 = .ok (.iconst 1, 1) := by decide +kernel
theorem dX12_draw_12 : decode cX12_draw 12 = .ok (.sipush 1000, 3) := by decide +kernel
theorem dX12_draw_15 : decode cX12_draw 15 = .ok (.invokestatic 219, 3) := by decide +kernel
theorem dX12_draw_18 : decode cX12_draw 18 = .ok (.ifCond .ne 5, 3) := by decide +kernel
theorem dX12_draw_21 : decode cX12_draw 21 = .ok (.iconst 0, 1) := by decide +kernel
theorem dX12_draw_22 : decode cX12_draw 22 = .ok (.ireturn, 1) := by decide +kernel
theorem dX12_draw_23 : decode cX12_draw 23 = .ok (.aload_n 0, 1) := by decide +kernel
theorem dX12_draw_24 : decode cX12_draw 24 = .ok (.invokevirtual 355, 3) := by decide +kernel
theorem dX12_draw_27 : decode cX12_draw 27 = .ok (.lload_n 3, 1) := by decide +kernel
theorem dX12_draw_28 : decode cX12_draw 28 = .ok (.lstore 5, 2) := by decide +kernel
theorem dX12_draw_30 : decode cX12_draw 30 = .ok (.aload_n 0, 1) := by decide +kernel
theorem dX12_draw_31 : decode cX12_draw 31 = .ok (.getfield 77, 3) := by decide +kernel
theorem dX12_draw_34 : decode cX12_draw 34 = .ok (.iconst 0, 1) := by decide +kernel
theorem dX12_draw_35 : decode cX12_draw 35 = .ok (.iload_n 1, 1) := by decide +kernel
theorem dX12_draw_36 : decode cX12_draw 36 = .ok (.iastore, 1) := by decide +kernel
theorem dX12_draw_37 : decode cX12_draw 37 = .ok (.iconst 1, 1) := by decide +kernel
theorem dX12_draw_38 : decode cX12_draw 38 = .ok (.istore 7, 2) := by decide +kernel
theorem dX12_draw_40 : decode cX12_draw 40 = .ok (.iload 7, 2) := by decide +kernel
theorem dX12_draw_42 : decode cX12_draw 42 = .ok (.iload_n 1, 1) := by decide +kernel
theorem dX12_draw_43 : decode cX12_draw 43 = .ok (.if_icmp .gt 37, 3) := by decide +kernel
theorem dX12_draw_46 : decode cX12_draw 46 = .ok (.lload 5, 2) := by decide +kernel
theorem dX12_draw_48 : decode cX12_draw 48 = .ok (.ldc2_w 361, 3) := by decide +kernel
theorem dX12_draw_51 : decode cX12_draw 51 = .ok (.lmul, 1) := by decide +kernel
theorem dX12_draw_52 : decode cX12_draw 52 = .ok (.ldc2_w 363, 3) := by decide +kernel
theorem dX12_draw_55 : decode cX12_draw 55 = .ok (.ladd, 1) := by decide +kernel
theorem dX12_draw_56 : decode cX12_draw 56 = .ok (.lstore 5, 2) := by decide +kernel
theorem dX12_draw_58 : decode cX12_draw 58 = .ok (.aload_n 0, 1) := by decide +kernel
theorem dX12_draw_59 : decode cX12_draw 59 = .ok (.getfield 77, 3) := by decide +kernel
theorem dX12_draw_62 : decode cX12_draw 62 = .ok (.iload 7, 2) := by decide +kernel
theorem dX12_draw_64 : decode cX12_draw 64 = .ok (.lload 5, 2) := by decide +kernel
theorem dX12_draw_66 : decode cX12_draw 66 = .ok (.bipush 33, 2) := by decide +kernel
theorem dX12_draw_68 : decode cX12_draw 68 = .ok (.lushr, 1) := by decide +kernel
theorem dX12_draw_69 : decode cX12_draw 69 = .ok (.iload_n 2, 1) := by decide +kernel
theorem dX12_draw_70 : decode cX12_draw 70 = .ok (.i2l, 1) := by decide +kernel
theorem dX12_draw_71 : decode cX12_draw 71 = .ok (.lrem, 1) := by decide +kernel
theorem dX12_draw_72 : decode cX12_draw 72 = .ok (.l2i, 1) := by decide +kernel
theorem dX12_draw_73 : decode cX12_draw 73 = .ok (.iastore, 1) := by decide +kernel
theorem dX12_draw_74 : decode cX12_draw 74 = .ok (.iinc 7 1, 3) := by decide +kernel
theorem dX12_draw_77 : decode cX12_draw 77 = .ok (.goto (-37), 3) := by decide +kernel
theorem dX12_draw_80 : decode cX12_draw 80 = .ok (.iconst 1, 1) := by decide +kernel
theorem dX12_draw_81 : decode cX12_draw 81 = .ok (.ireturn, 1) := by decide +kernel
theorem dX12_at_0 : decode cX12_at 0 = .ok (.aload_n 0, 1) := by decide +kernel
theorem dX12_at_1 : decode cX12_at 1 = .ok (.iload_n 1, 1) := by decide +kernel
theorem dX12_at_2 : decode cX12_at 2 = .ok (.invokevirtual 358, 3) := by decide +kernel
theorem dX12_at_5 : decode cX12_at 5 = .ok (.ifCond .eq 14, 3) := by decide +kernel
theorem dX12_at_8 : decode cX12_at 8 = .ok (.aload_n 0, 1) := by decide +kernel
theorem dX12_at_9 : decode cX12_at 9 = .ok (.getfield 77, 3) := by decide +kernel
theorem dX12_at_12 : decode cX12_at 12 = .ok (.iload_n 1, 1) := by decide +kernel
theorem dX12_at_13 : decode cX12_at 13 = .ok (.iconst 1, 1) := by decide +kernel
theorem dX12_at_14 : decode cX12_at 14 = .ok (.iadd, 1) := by decide +kernel
theorem dX12_at_15 : decode cX12_at 15 = .ok (.iaload, 1) := by decide +kernel
theorem dX12_at_16 : decode cX12_at 16 = .ok (.goto 4, 3) := by decide +kernel
theorem dX12_at_19 : decode cX12_at 19 = .ok (.iconst (-1), 1) := by decide +kernel
theorem dX12_at_20 : decode cX12_at 20 = .ok (.ireturn, 1) := by decide +kernel
theorem dX12_undo_0 : decode cX12_undo 0 = .ok (.iload_n 1, 1) := by decide +kernel
theorem dX12_undo_1 : decode cX12_undo 1 = .ok (.ifCond .eq 13, 3) := by decide +kernel
theorem dX12_undo_4 : decode cX12_undo 4 = .ok (.aload_n 0, 1) := by decide +kernel
theorem dX12_undo_5 : decode cX12_undo 5 = .ok (.getfield 349, 3) := by decide +kernel
theorem dX12_undo_8 : decode cX12_undo 8 = .ok (.ifCond .ne 15, 3) := by decide +kernel
theorem dX12_undo_11 : decode cX12_undo 11 = .ok (.goto 10, 3) := by decide +kernel
theorem dX12_undo_14 : decode cX12_undo 14 = .ok (.aload_n 0, 1) := by decide +kernel
theorem dX12_undo_15 : decode cX12_undo 15 = .ok (.getfield 339, 3) := by decide +kernel
theorem dX12_undo_18 : decode cX12_undo 18 = .ok (.ifCond .ne 5, 3) := by decide +kernel
theorem dX12_undo_21 : decode cX12_undo 21 = .ok (.iconst (-1), 1) := by decide +kernel
theorem dX12_undo_22 : decode cX12_undo 22 = .ok (.ireturn, 1) := by decide +kernel
theorem dX12_undo_23 : decode cX12_undo 23 = .ok (.iload_n 1, 1) := by decide +kernel
theorem dX12_undo_24 : decode cX12_undo 24 = .ok (.ifCond .eq 39, 3) := by decide +kernel
theorem dX12_undo_27 : decode cX12_undo 27 = .ok (.aload_n 0, 1) := by decide +kernel
theorem dX12_undo_28 : decode cX12_undo 28 = .ok (.invokevirtual 346, 3) := by decide +kernel
theorem dX12_undo_31 : decode cX12_undo 31 = .ok (.aload_n 0, 1) := by decide +kernel
theorem dX12_undo_32 : decode cX12_undo 32 = .ok (.dup, 1) := by decide +kernel
theorem dX12_undo_33 : decode cX12_undo 33 = .ok (.getfield 349, 3) := by decide +kernel
theorem dX12_undo_36 : decode cX12_undo 36 = .ok (.iconst 1, 1) := by decide +kernel
theorem dX12_undo_37 : decode cX12_undo 37 = .ok (.isub, 1) := by decide +kernel
theorem dX12_undo_38 : decode cX12_undo 38 = .ok (.putfield 349, 3) := by decide +kernel
theorem dX12_undo_41 : decode cX12_undo 41 = .ok (.aload_n 0, 1) := by decide +kernel
theorem dX12_undo_42 : decode cX12_undo 42 = .ok (.getfield 83, 3) := by decide +kernel
theorem dX12_undo_45 : decode cX12_undo 45 = .ok (.bipush 41, 2) := by decide +kernel
theorem dX12_undo_47 : decode cX12_undo 47 = .ok (.aload_n 0, 1) := by decide +kernel
theorem dX12_undo_48 : decode cX12_undo 48 = .ok (.getfield 349, 3) := by decide +kernel
theorem dX12_undo_51 : decode cX12_undo 51 = .ok (.imul, 1) := by decide +kernel
theorem dX12_undo_52 : decode cX12_undo 52 = .ok (.aload_n 0, 1) := by decide +kernel
theorem dX12_undo_53 : decode cX12_undo 53 = .ok (.getfield 77, 3) := by decide +kernel
theorem dX12_undo_56 : decode cX12_undo 56 = .ok (.iconst 0, 1) := by decide +kernel
theorem dX12_undo_57 : decode cX12_undo 57 = .ok (.invokestatic 342, 3) := by decide +kernel
theorem dX12_undo_60 : decode cX12_undo 60 = .ok (.goto 61, 3) := by decide +kernel
theorem dX12_undo_63 : decode cX12_undo 63 = .ok (.aload_n 0, 1) := by decide +kernel
theorem dX12_undo_64 : decode cX12_undo 64 = .ok (.getfield 77, 3) := by decide +kernel
theorem dX12_undo_67 : decode cX12_undo 67 = .ok (.iconst 0, 1) := by decide +kernel
theorem dX12_undo_68 : decode cX12_undo 68 = .ok (.aload_n 0, 1) := by decide +kernel
theorem dX12_undo_69 : decode cX12_undo 69 = .ok (.getfield 83, 3) := by decide +kernel
theorem dX12_undo_72 : decode cX12_undo 72 = .ok (.bipush 41, 2) := by decide +kernel
theorem dX12_undo_74 : decode cX12_undo 74 = .ok (.aload_n 0, 1) := by decide +kernel
theorem dX12_undo_75 : decode cX12_undo 75 = .ok (.getfield 349, 3) := by decide +kernel
theorem dX12_undo_78 : decode cX12_undo 78 = .ok (.imul, 1) := by decide +kernel
theorem dX12_undo_79 : decode cX12_undo 79 = .ok (.invokestatic 342, 3) := by decide +kernel
theorem dX12_undo_82 : decode cX12_undo 82 = .ok (.aload_n 0, 1) := by decide +kernel
theorem dX12_undo_83 : decode cX12_undo 83 = .ok (.dup, 1) := by decide +kernel
theorem dX12_undo_84 : decode cX12_undo 84 = .ok (.getfield 349, 3) := by decide +kernel
theorem dX12_undo_87 : decode cX12_undo 87 = .ok (.iconst 1, 1) := by decide +kernel
theorem dX12_undo_88 : decode cX12_undo 88 = .ok (.iadd, 1) := by decide +kernel
theorem dX12_undo_89 : decode cX12_undo 89 = .ok (.putfield 349, 3) := by decide +kernel
theorem dX12_undo_92 : decode cX12_undo 92 = .ok (.aload_n 0, 1) := by decide +kernel
theorem dX12_undo_93 : decode cX12_undo 93 = .ok (.dup, 1) := by decide +kernel
theorem dX12_undo_94 : decode cX12_undo 94 = .ok (.getfield 339, 3) := by decide +kernel
theorem dX12_undo_97 : decode cX12_undo 97 = .ok (.iconst 1, 1) := by decide +kernel
theorem dX12_undo_98 : decode cX12_undo 98 = .ok (.isub, 1) := by decide +kernel
theorem dX12_undo_99 : decode cX12_undo 99 = .ok (.putfield 339, 3) := by decide +kernel
theorem dX12_undo_102 : decode cX12_undo 102 = .ok (.aload_n 0, 1) := by decide +kernel
theorem dX12_undo_103 : decode cX12_undo 103 = .ok (.getfield 80, 3) := by decide +kernel
theorem dX12_undo_106 : decode cX12_undo 106 = .ok (.bipush 41, 2) := by decide +kernel
theorem dX12_undo_108 : decode cX12_undo 108 = .ok (.aload_n 0, 1) := by decide +kernel
theorem dX12_undo_109 : decode cX12_undo 109 = .ok (.getfield 339, 3) := by decide +kernel
theorem dX12_undo_112 : decode cX12_undo 112 = .ok (.imul, 1) := by decide +kernel
theorem dX12_undo_113 : decode cX12_undo 113 = .ok (.aload_n 0, 1) := by decide +kernel
theorem dX12_undo_114 : decode cX12_undo 114 = .ok (.getfield 77, 3) := by decide +kernel
theorem dX12_undo_117 : decode cX12_undo 117 = .ok (.iconst 0, 1) := by decide +kernel
theorem dX12_undo_118 : decode cX12_undo 118 = .ok (.invokestatic 342, 3) := by decide +kernel
theorem dX12_undo_121 : decode cX12_undo 121 = .ok (.aload_n 0, 1) := by decide +kernel
theorem dX12_undo_122 : decode cX12_undo 122 = .ok (.getfield 77, 3) := by decide +kernel
theorem dX12_undo_125 : decode cX12_undo 125 = .ok (.iconst 0, 1) := by decide +kernel
theorem dX12_undo_126 : decode cX12_undo 126 = .ok (.iaload, 1) := by decide +kernel
theorem dX12_undo_127 : decode cX12_undo 127 = .ok (.ireturn, 1) := by decide +kernel
theorem dX12_windowOf_0 : decode cX12_windowOf 0 = .ok (.iconst 0, 1) := by decide +kernel
theorem dX12_windowOf_1 : decode cX12_windowOf 1 = .ok (.istore_n 2, 1) := by decide +kernel
theorem dX12_windowOf_2 : decode cX12_windowOf 2 = .ok (.iconst 0, 1) := by decide +kernel
theorem dX12_windowOf_3 : decode cX12_windowOf 3 = .ok (.istore_n 3, 1) := by decide +kernel
theorem dX12_windowOf_4 : decode cX12_windowOf 4 = .ok (.iload_n 3, 1) := by decide +kernel
theorem dX12_windowOf_5 : decode cX12_windowOf 5 = .ok (.aload_n 0, 1) := by decide +kernel
theorem dX12_windowOf_6 : decode cX12_windowOf 6 = .ok (.getfield 77, 3) := by decide +kernel
theorem dX12_windowOf_9 : decode cX12_windowOf 9 = .ok (.iconst 0, 1) := by decide +kernel
theorem dX12_windowOf_10 : decode cX12_windowOf 10 = .ok (.iaload, 1) := by decide +kernel
theorem dX12_windowOf_11 : decode cX12_windowOf 11 = .ok (.if_icmp .ge 104, 3) := by decide +kernel
theorem dX12_windowOf_14 : decode cX12_windowOf 14 = .ok (.iload_n 3, 1) := by decide +kernel
theorem dX12_windowOf_15 : decode cX12_windowOf 15 = .ok (.iload_n 1, 1) := by decide +kernel
theorem dX12_windowOf_16 : decode cX12_windowOf 16 = .ok (.isub, 1) := by decide +kernel
theorem dX12_windowOf_17 : decode cX12_windowOf 17 = .ok (.invokestatic 326, 3) := by decide +kernel
theorem dX12_windowOf_20 : decode cX12_windowOf 20 = .ok (.aload_n 0, 1) := by decide +kernel
theorem dX12_windowOf_21 : decode cX12_windowOf 21 = .ok (.getfield 62, 3) := by decide +kernel
theorem dX12_windowOf_24 : decode cX12_windowOf 24 = .ok (.iconst 1, 1) := by decide +kernel
theorem dX12_windowOf_25 : decode cX12_windowOf 25 = .ok (.iadd, 1) := by decide +kernel
theorem dX12_windowOf_26 : decode cX12_windowOf 26 = .ok (.aload_n 0, 1) := by decide +kernel
theorem dX12_windowOf_27 : decode cX12_windowOf 27 = .ok (.getfield 62, 3) := by decide +kernel
theorem dX12_windowOf_30 : decode cX12_windowOf 30 = .ok (.aload_n 0, 1) := by decide +kernel
theorem dX12_windowOf_31 : decode cX12_windowOf 31 = .ok (.getfield 65, 3) := by decide +kernel
theorem dX12_windowOf_34 : decode cX12_windowOf 34 = .ok (.iadd, 1) := by decide +kernel
theorem dX12_windowOf_35 : decode cX12_windowOf 35 = .ok (.invokestatic 219, 3) := by decide +kernel
theorem dX12_windowOf_38 : decode cX12_windowOf 38 = .ok (.ifCond .eq 71, 3) := by decide +kernel
theorem dX12_windowOf_41 : decode cX12_windowOf 41 = .ok (.iload_n 2, 1) := by decide +kernel
theorem dX12_windowOf_42 : decode cX12_windowOf 42 = .ok (.istore 4, 2) := by decide +kernel
theorem dX12_windowOf_44 : decode cX12_windowOf 44 = .ok (.iload 4, 2) := by decide +kernel
theorem dX12_windowOf_46 : decode cX12_windowOf 46 = .ok (.ifCond .le 45, 3) := by decide +kernel
theorem dX12_windowOf_49 : decode cX12_windowOf 49 = .ok (.aload_n 0, 1) := by decide +kernel
theorem dX12_windowOf_50 : decode cX12_windowOf 50 = .ok (.getfield 89, 3) := by decide +kernel
theorem dX12_windowOf_53 : decode cX12_windowOf 53 = .ok (.iload 4, 2) := by decide +kernel
theorem dX12_windowOf_55 : decode cX12_windowOf 55 = .ok (.iconst 1, 1) := by decide +kernel
theorem dX12_windowOf_56 : decode cX12_windowOf 56 = .ok (.isub, 1) := by decide +kernel
theorem dX12_windowOf_57 : decode cX12_windowOf 57 = .ok (.iaload, 1) := by decide +kernel
theorem dX12_windowOf_58 : decode cX12_windowOf 58 = .ok (.aload_n 0, 1) := by decide +kernel
theorem dX12_windowOf_59 : decode cX12_windowOf 59 = .ok (.getfield 77, 3) := by decide +kernel
theorem dX12_windowOf_62 : decode cX12_windowOf 62 = .ok (.iload_n 3, 1) := by decide +kernel
theorem dX12_windowOf_63 : decode cX12_windowOf 63 = .ok (.iconst 1, 1) := by decide +kernel
theorem dX12_windowOf_64 : decode cX12_windowOf 64 = .ok (.iadd, 1) := by decide +kernel
theorem dX12_windowOf_65 : decode cX12_windowOf 65 = .ok (.iaload, 1) := by decide +kernel
theorem dX12_windowOf_66 : decode cX12_windowOf 66 = .ok (.if_icmp .le 25, 3) := by decide +kernel
theorem dX12_windowOf_69 : decode cX12_windowOf 69 = .ok (.aload_n 0, 1) := by decide +kernel
theorem dX12_windowOf_70 : decode cX12_windowOf 70 = .ok (.getfield 89, 3) := by decide +kernel
theorem dX12_windowOf_73 : decode cX12_windowOf 73 = .ok (.iload 4, 2) := by decide +kernel
theorem dX12_windowOf_75 : decode cX12_windowOf 75 = .ok (.aload_n 0, 1) := by decide +kernel
theorem dX12_windowOf_76 : decode cX12_windowOf 76 = .ok (.getfield 89, 3) := by decide +kernel
theorem dX12_windowOf_79 : decode cX12_windowOf 79 = .ok (.iload 4, 2) := by decide +kernel
theorem dX12_windowOf_81 : decode cX12_windowOf 81 = .ok (.iconst 1, 1) := by decide +kernel
theorem dX12_windowOf_82 : decode cX12_windowOf 82 = .ok (.isub, 1) := by decide +kernel
theorem dX12_windowOf_83 : decode cX12_windowOf 83 = .ok (.iaload, 1) := by decide +kernel
theorem dX12_windowOf_84 : decode cX12_windowOf 84 = .ok (.iastore, 1) := by decide +kernel
theorem dX12_windowOf_85 : decode cX12_windowOf 85 = .ok (.iinc 4 (-1), 3) := by decide +kernel
theorem dX12_windowOf_88 : decode cX12_windowOf 88 = .ok (.goto (-44), 3) := by decide +kernel
theorem dX12_windowOf_91 : decode cX12_windowOf 91 = .ok (.aload_n 0, 1) := by decide +kernel
theorem dX12_windowOf_92 : decode cX12_windowOf 92 = .ok (.getfield 89, 3) := by decide +kernel
theorem dX12_windowOf_95 : decode cX12_windowOf 95 = .ok (.iload 4, 2) := by decide +kernel
theorem dX12_windowOf_97 : decode cX12_windowOf 97 = .ok (.aload_n 0, 1) := by decide +kernel
theorem dX12_windowOf_98 : decode cX12_windowOf 98 = .ok (.getfield 77, 3) := by decide +kernel
theorem dX12_windowOf_101 : decode cX12_windowOf 101 = .ok (.iload_n 3, 1) := by decide +kernel
theorem dX12_windowOf_102 : decode cX12_windowOf 102 = .ok (.iconst 1, 1) := by decide +kernel
theorem dX12_windowOf_103 : decode cX12_windowOf 103 = .ok (.iadd, 1) := by decide +kernel
theorem dX12_windowOf_104 : decode cX12_windowOf 104 = .ok (.iaload, 1) := by decide +kernel
theorem dX12_windowOf_105 : decode cX12_windowOf 105 = .ok (.iastore, 1) := by decide +kernel
theorem dX12_windowOf_106 : decode cX12_windowOf 106 = .ok (.iinc 2 1, 3) := by decide +kernel
theorem dX12_windowOf_109 : decode cX12_windowOf 109 = .ok (.iinc 3 1, 3) := by decide +kernel
theorem dX12_windowOf_112 : decode cX12_windowOf 112 = .ok (.goto (-108), 3) := by decide +kernel
theorem dX12_windowOf_115 : decode cX12_windowOf 115 = .ok (.iload_n 2, 1) := by decide +kernel
theorem dX12_windowOf_116 : decode cX12_windowOf 116 = .ok (.ireturn, 1) := by decide +kernel
theorem dX12_found_0 : decode cX12_found 0 = .ok (.aload_n 0, 1) := by decide +kernel
theorem dX12_found_1 : decode cX12_found 1 = .ok (.iload_n 1, 1) := by decide +kernel
theorem dX12_found_2 : decode cX12_found 2 = .ok (.invokevirtual 358, 3) := by decide +kernel
theorem dX12_found_5 : decode cX12_found 5 = .ok (.ifCond .ne 5, 3) := by decide +kernel
theorem dX12_found_8 : decode cX12_found 8 = .ok (.iconst (-1), 1) := by decide +kernel
theorem dX12_found_9 : decode cX12_found 9 = .ok (.ireturn, 1) := by decide +kernel
theorem dX12_found_10 : decode cX12_found 10 = .ok (.aload_n 0, 1) := by decide +kernel
theorem dX12_found_11 : decode cX12_found 11 = .ok (.iload_n 1, 1) := by decide +kernel
theorem dX12_found_12 : decode cX12_found 12 = .ok (.invokevirtual 365, 3) := by decide +kernel
theorem dX12_found_15 : decode cX12_found 15 = .ok (.aload_n 0, 1) := by decide +kernel
theorem dX12_found_16 : decode cX12_found 16 = .ok (.getfield 68, 3) := by decide +kernel
theorem dX12_found_19 : decode cX12_found 19 = .ok (.if_icmp .ge 9, 3) := by decide +kernel
theorem dX12_found_22 : decode cX12_found 22 = .ok (.ldc_w 268, 3) := by decide +kernel
theorem dX12_found_25 : decode cX12_found 25 = .ok (.goto 38, 3) := by decide +kernel
theorem dX12_found_28 : decode cX12_found 28 = .ok (.bipush 10, 2) := by decide +kernel
theorem dX12_found_30 : decode cX12_found 30 = .ok (.aload_n 0, 1) := by decide +kernel
theorem dX12_found_31 : decode cX12_found 31 = .ok (.getfield 77, 3) := by decide +kernel
theorem dX12_found_34 : decode cX12_found 34 = .ok (.iload_n 1, 1) := by decide +kernel
theorem dX12_found_35 : decode cX12_found 35 = .ok (.iconst 1, 1) := by decide +kernel
theorem dX12_found_36 : decode cX12_found 36 = .ok (.iadd, 1) := by decide +kernel
theorem dX12_found_37 : decode cX12_found 37 = .ok (.iaload, 1) := by decide +kernel
theorem dX12_found_38 : decode cX12_found 38 = .ok (.imul, 1) := by decide +kernel
theorem dX12_found_39 : decode cX12_found 39 = .ok (.aload_n 0, 1) := by decide +kernel
theorem dX12_found_40 : decode cX12_found 40 = .ok (.getfield 71, 3) := by decide +kernel
theorem dX12_found_43 : decode cX12_found 43 = .ok (.aload_n 0, 1) := by decide +kernel
theorem dX12_found_44 : decode cX12_found 44 = .ok (.getfield 89, 3) := by decide +kernel
theorem dX12_found_47 : decode cX12_found 47 = .ok (.aload_n 0, 1) := by decide +kernel
theorem dX12_found_48 : decode cX12_found 48 = .ok (.getfield 68, 3) := by decide +kernel
theorem dX12_found_51 : decode cX12_found 51 = .ok (.iconst 1, 1) := by decide +kernel
theorem dX12_found_52 : decode cX12_found 52 = .ok (.isub, 1) := by decide +kernel
theorem dX12_found_53 : decode cX12_found 53 = .ok (.iaload, 1) := by decide +kernel
theorem dX12_found_54 : decode cX12_found 54 = .ok (.imul, 1) := by decide +kernel
theorem dX12_found_55 : decode cX12_found 55 = .ok (.if_icmp .le 7, 3) := by decide +kernel
theorem dX12_found_58 : decode cX12_found 58 = .ok (.iconst 1, 1) := by decide +kernel
theorem dX12_found_59 : decode cX12_found 59 = .ok (.goto 4, 3) := by decide +kernel
theorem dX12_found_62 : decode cX12_found 62 = .ok (.iconst 0, 1) := by decide +kernel
theorem dX12_found_63 : decode cX12_found 63 = .ok (.ireturn, 1) := by decide +kernel
theorem dX12_alarms_0 : decode cX12_alarms 0 = .ok (.iconst 0, 1) := by decide +kernel
theorem dX12_alarms_1 : decode cX12_alarms 1 = .ok (.istore_n 1, 1) := by decide +kernel
theorem dX12_alarms_2 : decode cX12_alarms 2 = .ok (.iconst 0, 1) := by decide +kernel
theorem dX12_alarms_3 : decode cX12_alarms 3 = .ok (.istore_n 2, 1) := by decide +kernel
theorem dX12_alarms_4 : decode cX12_alarms 4 = .ok (.iload_n 2, 1) := by decide +kernel
theorem dX12_alarms_5 : decode cX12_alarms 5 = .ok (.aload_n 0, 1) := by decide +kernel
theorem dX12_alarms_6 : decode cX12_alarms 6 = .ok (.getfield 77, 3) := by decide +kernel
theorem dX12_alarms_9 : decode cX12_alarms 9 = .ok (.iconst 0, 1) := by decide +kernel
theorem dX12_alarms_10 : decode cX12_alarms 10 = .ok (.iaload, 1) := by decide +kernel
theorem dX12_alarms_11 : decode cX12_alarms 11 = .ok (.if_icmp .ge 26, 3) := by decide +kernel
theorem dX12_alarms_14 : decode cX12_alarms 14 = .ok (.iload_n 1, 1) := by decide +kernel
theorem dX12_alarms_15 : decode cX12_alarms 15 = .ok (.aload_n 0, 1) := by decide +kernel
theorem dX12_alarms_16 : decode cX12_alarms 16 = .ok (.iload_n 2, 1) := by decide +kernel
theorem dX12_alarms_17 : decode cX12_alarms 17 = .ok (.invokevirtual 368, 3) := by decide +kernel
theorem dX12_alarms_20 : decode cX12_alarms 20 = .ok (.iconst 1, 1) := by decide +kernel
theorem dX12_alarms_21 : decode cX12_alarms 21 = .ok (.if_icmp .ne 7, 3) := by decide +kernel
theorem dX12_alarms_24 : decode cX12_alarms 24 = .ok (.iconst 1, 1) := by decide +kernel
theorem dX12_alarms_25 : decode cX12_alarms 25 = .ok (.goto 4, 3) := by decide +kernel
theorem dX12_alarms_28 : decode cX12_alarms 28 = .ok (.iconst 0, 1) := by decide +kernel
theorem dX12_alarms_29 : decode cX12_alarms 29 = .ok (.iadd, 1) := by decide +kernel
theorem dX12_alarms_30 : decode cX12_alarms 30 = .ok (.istore_n 1, 1) := by decide +kernel
theorem dX12_alarms_31 : decode cX12_alarms 31 = .ok (.iinc 2 1, 3) := by decide +kernel
theorem dX12_alarms_34 : decode cX12_alarms 34 = .ok (.goto (-30), 3) := by decide +kernel
theorem dX12_alarms_37 : decode cX12_alarms 37 = .ok (.iload_n 1, 1) := by decide +kernel
theorem dX12_alarms_38 : decode cX12_alarms 38 = .ok (.ireturn, 1) := by decide +kernel
theorem dX12_power_0 : decode cX12_power 0 = .ok (.lconst 1, 1) := by decide +kernel
theorem dX12_power_1 : decode cX12_power 1 = .ok (.lstore_n 3, 1) := by decide +kernel
theorem dX12_power_2 : decode cX12_power 2 = .ok (.iconst 0, 1) := by decide +kernel
theorem dX12_power_3 : decode cX12_power 3 = .ok (.istore 5, 2) := by decide +kernel
theorem dX12_power_5 : decode cX12_power 5 = .ok (.iload 5, 2) := by decide +kernel
theorem dX12_power_7 : decode cX12_power 7 = .ok (.iload_n 2, 1) := by decide +kernel
theorem dX12_power_8 : decode cX12_power 8 = .ok (.if_icmp .ge 13, 3) := by decide +kernel
theorem dX12_power_11 : decode cX12_power 11 = .ok (.lload_n 3, 1) := by decide +kernel
theorem dX12_power_12 : decode cX12_power 12 = .ok (.lload_n 0, 1) := by decide +kernel
theorem dX12_power_13 : decode cX12_power 13 = .ok (.lmul, 1) := by decide +kernel
theorem dX12_power_14 : decode cX12_power 14 = .ok (.lstore_n 3, 1) := by decide +kernel
theorem dX12_power_15 : decode cX12_power 15 = .ok (.iinc 5 1, 3) := by decide +kernel
theorem dX12_power_18 : decode cX12_power 18 = .ok (.goto (-13), 3) := by decide +kernel
theorem dX12_power_21 : decode cX12_power 21 = .ok (.lload_n 3, 1) := by decide +kernel
theorem dX12_power_22 : decode cX12_power 22 = .ok (.lreturn, 1) := by decide +kernel
theorem dX12_choose_0 : decode cX12_choose 0 = .ok (.lconst 1, 1) := by decide +kernel
theorem dX12_choose_1 : decode cX12_choose 1 = .ok (.lstore_n 2, 1) := by decide +kernel
theorem dX12_choose_2 : decode cX12_choose 2 = .ok (.iconst 1, 1) := by decide +kernel
theorem dX12_choose_3 : decode cX12_choose 3 = .ok (.istore 4, 2) := by decide +kernel
theorem dX12_choose_5 : decode cX12_choose 5 = .ok (.iload 4, 2) := by decide +kernel
theorem dX12_choose_7 : decode cX12_choose 7 = .ok (.iload_n 1, 1) := by decide +kernel
theorem dX12_choose_8 : decode cX12_choose 8 = .ok (.if_icmp .gt 23, 3) := by decide +kernel
theorem dX12_choose_11 : decode cX12_choose 11 = .ok (.lload_n 2, 1) := by decide +kernel
theorem dX12_choose_12 : decode cX12_choose 12 = .ok (.iload_n 0, 1) := by decide +kernel
theorem dX12_choose_13 : decode cX12_choose 13 = .ok (.iload_n 1, 1) := by decide +kernel
theorem dX12_choose_14 : decode cX12_choose 14 = .ok (.isub, 1) := by decide +kernel
theorem dX12_choose_15 : decode cX12_choose 15 = .ok (.iload 4, 2) := by decide +kernel
theorem dX12_choose_17 : decode cX12_choose 17 = .ok (.iadd, 1) := by decide +kernel
theorem dX12_choose_18 : decode cX12_choose 18 = .ok (.i2l, 1) := by decide +kernel
theorem dX12_choose_19 : decode cX12_choose 19 = .ok (.lmul, 1) := by decide +kernel
theorem dX12_choose_20 : decode cX12_choose 20 = .ok (.iload 4, 2) := by decide +kernel
theorem dX12_choose_22 : decode cX12_choose 22 = .ok (.i2l, 1) := by decide +kernel
theorem dX12_choose_23 : decode cX12_choose 23 = .ok (.ldiv, 1) := by decide +kernel
theorem dX12_choose_24 : decode cX12_choose 24 = .ok (.lstore_n 2, 1) := by decide +kernel
theorem dX12_choose_25 : decode cX12_choose 25 = .ok (.iinc 4 1, 3) := by decide +kernel
theorem dX12_choose_28 : decode cX12_choose 28 = .ok (.goto (-23), 3) := by decide +kernel
theorem dX12_choose_31 : decode cX12_choose 31 = .ok (.lload_n 2, 1) := by decide +kernel
theorem dX12_choose_32 : decode cX12_choose 32 = .ok (.lreturn, 1) := by decide +kernel
theorem dX12_upTo_0 : decode cX12_upTo 0 = .ok (.lconst 0, 1) := by decide +kernel
theorem dX12_upTo_1 : decode cX12_upTo 1 = .ok (.lstore 4, 2) := by decide +kernel
theorem dX12_upTo_3 : decode cX12_upTo 3 = .ok (.iload_n 2, 1) := by decide +kernel
theorem dX12_upTo_4 : decode cX12_upTo 4 = .ok (.istore 6, 2) := by decide +kernel
theorem dX12_upTo_6 : decode cX12_upTo 6 = .ok (.iload 6, 2) := by decide +kernel
theorem dX12_upTo_8 : decode cX12_upTo 8 = .ok (.iload_n 0, 1) := by decide +kernel
theorem dX12_upTo_9 : decode cX12_upTo 9 = .ok (.if_icmp .gt 44, 3) := by decide +kernel
theorem dX12_upTo_12 : decode cX12_upTo 12 = .ok (.lload 4, 2) := by decide +kernel
theorem dX12_upTo_14 : decode cX12_upTo 14 = .ok (.iload_n 0, 1) := by decide +kernel
theorem dX12_upTo_15 : decode cX12_upTo 15 = .ok (.iload 6, 2) := by decide +kernel
theorem dX12_upTo_17 : decode cX12_upTo 17 = .ok (.invokestatic 371, 3) := by decide +kernel
theorem dX12_upTo_20 : decode cX12_upTo 20 = .ok (.iload_n 3, 1) := by decide +kernel
theorem dX12_upTo_21 : decode cX12_upTo 21 = .ok (.iconst 1, 1) := by decide +kernel
theorem dX12_upTo_22 : decode cX12_upTo 22 = .ok (.iadd, 1) := by decide +kernel
theorem dX12_upTo_23 : decode cX12_upTo 23 = .ok (.i2l, 1) := by decide +kernel
theorem dX12_upTo_24 : decode cX12_upTo 24 = .ok (.iload 6, 2) := by decide +kernel
theorem dX12_upTo_26 : decode cX12_upTo 26 = .ok (.invokestatic 375, 3) := by decide +kernel
theorem dX12_upTo_29 : decode cX12_upTo 29 = .ok (.lmul, 1) := by decide +kernel
theorem dX12_upTo_30 : decode cX12_upTo 30 = .ok (.iload_n 1, 1) := by decide +kernel
theorem dX12_upTo_31 : decode cX12_upTo 31 = .ok (.iload_n 3, 1) := by decide +kernel
theorem dX12_upTo_32 : decode cX12_upTo 32 = .ok (.isub, 1) := by decide +kernel
theorem dX12_upTo_33 : decode cX12_upTo 33 = .ok (.iconst 1, 1) := by decide +kernel
theorem dX12_upTo_34 : decode cX12_upTo 34 = .ok (.isub, 1) := by decide +kernel
theorem dX12_upTo_35 : decode cX12_upTo 35 = .ok (.i2l, 1) := by decide +kernel
theorem dX12_upTo_36 : decode cX12_upTo 36 = .ok (.iload_n 0, 1) := by decide +kernel
theorem dX12_upTo_37 : decode cX12_upTo 37 = .ok (.iload 6, 2) := by decide +kernel
theorem dX12_upTo_39 : decode cX12_upTo 39 = .ok (.isub, 1) := by decide +kernel
theorem dX12_upTo_40 : decode cX12_upTo 40 = .ok (.invokestatic 375, 3) := by decide +kernel
theorem dX12_upTo_43 : decode cX12_upTo 43 = .ok (.lmul, 1) := by decide +kernel
theorem dX12_upTo_44 : decode cX12_upTo 44 = .ok (.ladd, 1) := by decide +kernel
theorem dX12_upTo_45 : decode cX12_upTo 45 = .ok (.lstore 4, 2) := by decide +kernel
theorem dX12_upTo_47 : decode cX12_upTo 47 = .ok (.iinc 6 1, 3) := by decide +kernel
theorem dX12_upTo_50 : decode cX12_upTo 50 = .ok (.goto (-44), 3) := by decide +kernel
theorem dX12_upTo_53 : decode cX12_upTo 53 = .ok (.lload 4, 2) := by decide +kernel
theorem dX12_upTo_55 : decode cX12_upTo 55 = .ok (.lreturn, 1) := by decide +kernel
theorem dX12_share_0 : decode cX12_share 0 = .ok (.iload_n 1, 1) := by decide +kernel
theorem dX12_share_1 : decode cX12_share 1 = .ok (.iconst 1, 1) := by decide +kernel
theorem dX12_share_2 : decode cX12_share 2 = .ok (.bipush 8, 2) := by decide +kernel
theorem dX12_share_4 : decode cX12_share 4 = .ok (.invokestatic 219, 3) := by decide +kernel
theorem dX12_share_7 : decode cX12_share 7 = .ok (.ifCond .eq 43, 3) := by decide +kernel
theorem dX12_share_10 : decode cX12_share 10 = .ok (.iload_n 2, 1) := by decide +kernel
theorem dX12_share_11 : decode cX12_share 11 = .ok (.iconst 1, 1) := by decide +kernel
theorem dX12_share_12 : decode cX12_share 12 = .ok (.bipush 9, 2) := by decide +kernel
theorem dX12_share_14 : decode cX12_share 14 = .ok (.invokestatic 219, 3) := by decide +kernel
theorem dX12_share_17 : decode cX12_share 17 = .ok (.ifCond .eq 33, 3) := by decide +kernel
theorem dX12_share_20 : decode cX12_share 20 = .ok (.iload_n 3, 1) := by decide +kernel
theorem dX12_share_21 : decode cX12_share 21 = .ok (.iconst 1, 1) := by decide +kernel
theorem dX12_share_22 : decode cX12_share 22 = .ok (.iload_n 1, 1) := by decide +kernel
theorem dX12_share_23 : decode cX12_share 23 = .ok (.invokestatic 219, 3) := by decide +kernel
theorem dX12_share_26 : decode cX12_share 26 = .ok (.ifCond .eq 24, 3) := by decide +kernel
theorem dX12_share_29 : decode cX12_share 29 = .ok (.iload 4, 2) := by decide +kernel
theorem dX12_share_31 : decode cX12_share 31 = .ok (.iconst 0, 1) := by decide +kernel
theorem dX12_share_32 : decode cX12_share 32 = .ok (.bipush 99, 2) := by decide +kernel
theorem dX12_share_34 : decode cX12_share 34 = .ok (.invokestatic 219, 3) := by decide +kernel
theorem dX12_share_37 : decode cX12_share 37 = .ok (.ifCond .eq 13, 3) := by decide +kernel
theorem dX12_share_40 : decode cX12_share 40 = .ok (.iload 5, 2) := by decide +kernel
theorem dX12_share_42 : decode cX12_share 42 = .ok (.iconst 0, 1) := by decide +kernel
theorem dX12_share_43 : decode cX12_share 43 = .ok (.iconst 1, 1) := by decide +kernel
theorem dX12_share_44 : decode cX12_share 44 = .ok (.invokestatic 219, 3) := by decide +kernel
theorem dX12_share_47 : decode cX12_share 47 = .ok (.ifCond .ne 7, 3) := by decide +kernel
theorem dX12_share_50 : decode cX12_share 50 = .ok (.ldc2_w 378, 3) := by decide +kernel
theorem dX12_share_53 : decode cX12_share 53 = .ok (.lreturn, 1) := by decide +kernel
theorem dX12_share_54 : decode cX12_share 54 = .ok (.lconst 0, 1) := by decide +kernel
theorem dX12_share_55 : decode cX12_share 55 = .ok (.lstore 6, 2) := by decide +kernel
theorem dX12_share_57 : decode cX12_share 57 = .ok (.iconst 0, 1) := by decide +kernel
theorem dX12_share_58 : decode cX12_share 58 = .ok (.istore 8, 2) := by decide +kernel
theorem dX12_share_60 : decode cX12_share 60 = .ok (.iload 8, 2) := by decide +kernel
theorem dX12_share_62 : decode cX12_share 62 = .ok (.iload_n 2, 1) := by decide +kernel
theorem dX12_share_63 : decode cX12_share 63 = .ok (.if_icmp .ge 87, 3) := by decide +kernel
theorem dX12_share_66 : decode cX12_share 66 = .ok (.iconst 0, 1) := by decide +kernel
theorem dX12_share_67 : decode cX12_share 67 = .ok (.istore 9, 2) := by decide +kernel
theorem dX12_share_69 : decode cX12_share 69 = .ok (.iconst 0, 1) := by decide +kernel
theorem dX12_share_70 : decode cX12_share 70 = .ok (.istore 10, 2) := by decide +kernel
theorem dX12_share_72 : decode cX12_share 72 = .ok (.iload 10, 2) := by decide +kernel
theorem dX12_share_74 : decode cX12_share 74 = .ok (.iload_n 2, 1) := by decide +kernel
theorem dX12_share_75 : decode cX12_share 75 = .ok (.if_icmp .ge 32, 3) := by decide +kernel
theorem dX12_share_78 : decode cX12_share 78 = .ok (.iload 9, 2) := by decide +kernel
theorem dX12_share_80 : decode cX12_share 80 = .ok (.bipush 10, 2) := by decide +kernel
theorem dX12_share_82 : decode cX12_share 82 = .ok (.iload 10, 2) := by decide +kernel
theorem dX12_share_84 : decode cX12_share 84 = .ok (.imul, 1) := by decide +kernel
theorem dX12_share_85 : decode cX12_share 85 = .ok (.iload 4, 2) := by decide +kernel
theorem dX12_share_87 : decode cX12_share 87 = .ok (.iload 8, 2) := by decide +kernel
theorem dX12_share_89 : decode cX12_share 89 = .ok (.imul, 1) := by decide +kernel
theorem dX12_share_90 : decode cX12_share 90 = .ok (.if_icmp .le 7, 3) := by decide +kernel
theorem dX12_share_93 : decode cX12_share 93 = .ok (.iconst 1, 1) := by decide +kernel
theorem dX12_share_94 : decode cX12_share 94 = .ok (.goto 4, 3) := by decide +kernel
theorem dX12_share_97 : decode cX12_share 97 = .ok (.iconst 0, 1) := by decide +kernel
theorem dX12_share_98 : decode cX12_share 98 = .ok (.iadd, 1) := by decide +kernel
theorem dX12_share_99 : decode cX12_share 99 = .ok (.istore 9, 2) := by decide +kernel
theorem dX12_share_101 : decode cX12_share 101 = .ok (.iinc 10 1, 3) := by decide +kernel
theorem dX12_share_104 : decode cX12_share 104 = .ok (.goto (-32), 3) := by decide +kernel
theorem dX12_share_107 : decode cX12_share 107 = .ok (.lload 6, 2) := by decide +kernel
theorem dX12_share_109 : decode cX12_share 109 = .ok (.iload 9, 2) := by decide +kernel
theorem dX12_share_111 : decode cX12_share 111 = .ok (.i2l, 1) := by decide +kernel
theorem dX12_share_112 : decode cX12_share 112 = .ok (.iload_n 1, 1) := by decide +kernel
theorem dX12_share_113 : decode cX12_share 113 = .ok (.iload_n 2, 1) := by decide +kernel
theorem dX12_share_114 : decode cX12_share 114 = .ok (.iload_n 3, 1) := by decide +kernel
theorem dX12_share_115 : decode cX12_share 115 = .ok (.iload 8, 2) := by decide +kernel
theorem dX12_share_117 : decode cX12_share 117 = .ok (.invokestatic 380, 3) := by decide +kernel
theorem dX12_share_120 : decode cX12_share 120 = .ok (.iload 8, 2) := by decide +kernel
theorem dX12_share_122 : decode cX12_share 122 = .ok (.ifCond .ne 7, 3) := by decide +kernel
theorem dX12_share_125 : decode cX12_share 125 = .ok (.lconst 0, 1) := by decide +kernel
theorem dX12_share_126 : decode cX12_share 126 = .ok (.goto 13, 3) := by decide +kernel
theorem dX12_share_129 : decode cX12_share 129 = .ok (.iload_n 1, 1) := by decide +kernel
theorem dX12_share_130 : decode cX12_share 130 = .ok (.iload_n 2, 1) := by decide +kernel
theorem dX12_share_131 : decode cX12_share 131 = .ok (.iload_n 3, 1) := by decide +kernel
theorem dX12_share_132 : decode cX12_share 132 = .ok (.iload 8, 2) := by decide +kernel
theorem dX12_share_134 : decode cX12_share 134 = .ok (.iconst 1, 1) := by decide +kernel
theorem dX12_share_135 : decode cX12_share 135 = .ok (.isub, 1) := by decide +kernel
theorem dX12_share_136 : decode cX12_share 136 = .ok (.invokestatic 380, 3) := by decide +kernel
theorem dX12_share_139 : decode cX12_share 139 = .ok (.lsub, 1) := by decide +kernel
theorem dX12_share_140 : decode cX12_share 140 = .ok (.lmul, 1) := by decide +kernel
theorem dX12_share_141 : decode cX12_share 141 = .ok (.ladd, 1) := by decide +kernel
theorem dX12_share_142 : decode cX12_share 142 = .ok (.lstore 6, 2) := by decide +kernel
theorem dX12_share_144 : decode cX12_share 144 = .ok (.iinc 8 1, 3) := by decide +kernel
theorem dX12_share_147 : decode cX12_share 147 = .ok (.goto (-87), 3) := by decide +kernel
theorem dX12_share_150 : decode cX12_share 150 = .ok (.iload 5, 2) := by decide +kernel
theorem dX12_share_152 : decode cX12_share 152 = .ok (.ifCond .ne 8, 3) := by decide +kernel
theorem dX12_share_155 : decode cX12_share 155 = .ok (.lload 6, 2) := by decide +kernel
theorem dX12_share_157 : decode cX12_share 157 = .ok (.goto 18, 3) := by decide +kernel
theorem dX12_share_160 : decode cX12_share 160 = .ok (.lload 6, 2) := by decide +kernel
theorem dX12_share_162 : decode cX12_share 162 = .ok (.ldc2_w 193, 3) := by decide +kernel
theorem dX12_share_165 : decode cX12_share 165 = .ok (.lmul, 1) := by decide +kernel
theorem dX12_share_166 : decode cX12_share 166 = .ok (.iload_n 2, 1) := by decide +kernel
theorem dX12_share_167 : decode cX12_share 167 = .ok (.i2l, 1) := by decide +kernel
theorem dX12_share_168 : decode cX12_share 168 = .ok (.iload_n 1, 1) := by decide +kernel
theorem dX12_share_169 : decode cX12_share 169 = .ok (.iconst 1, 1) := by decide +kernel
theorem dX12_share_170 : decode cX12_share 170 = .ok (.iadd, 1) := by decide +kernel
theorem dX12_share_171 : decode cX12_share 171 = .ok (.invokestatic 375, 3) := by decide +kernel
theorem dX12_share_174 : decode cX12_share 174 = .ok (.ldiv, 1) := by decide +kernel
theorem dX12_share_175 : decode cX12_share 175 = .ok (.lreturn, 1) := by decide +kernel
theorem dX12_beam_0 : decode cX12_beam 0 = .ok (.iload_n 1, 1) := by decide +kernel
theorem dX12_beam_1 : decode cX12_beam 1 = .ok (.iconst 1, 1) := by decide +kernel
theorem dX12_beam_2 : decode cX12_beam 2 = .ok (.bipush 20, 2) := by decide +kernel
theorem dX12_beam_4 : decode cX12_beam 4 = .ok (.invokestatic 219, 3) := by decide +kernel
theorem dX12_beam_7 : decode cX12_beam 7 = .ok (.ifCond .eq 32, 3) := by decide +kernel
theorem dX12_beam_10 : decode cX12_beam 10 = .ok (.iload_n 2, 1) := by decide +kernel
theorem dX12_beam_11 : decode cX12_beam 11 = .ok (.iconst 1, 1) := by decide +kernel
theorem dX12_beam_12 : decode cX12_beam 12 = .ok (.bipush 99, 2) := by decide +kernel
theorem dX12_beam_14 : decode cX12_beam 14 = .ok (.invokestatic 219, 3) := by decide +kernel
theorem dX12_beam_17 : decode cX12_beam 17 = .ok (.ifCond .eq 22, 3) := by decide +kernel
theorem dX12_beam_20 : decode cX12_beam 20 = .ok (.iload_n 3, 1) := by decide +kernel
theorem dX12_beam_21 : decode cX12_beam 21 = .ok (.iconst 0, 1) := by decide +kernel
theorem dX12_beam_22 : decode cX12_beam 22 = .ok (.bipush 99, 2) := by decide +kernel
theorem dX12_beam_24 : decode cX12_beam 24 = .ok (.invokestatic 219, 3) := by decide +kernel
theorem dX12_beam_27 : decode cX12_beam 27 = .ok (.ifCond .eq 12, 3) := by decide +kernel
theorem dX12_beam_30 : decode cX12_beam 30 = .ok (.aload_n 0, 1) := by decide +kernel
theorem dX12_beam_31 : decode cX12_beam 31 = .ok (.getfield 384, 3) := by decide +kernel
theorem dX12_beam_34 : decode cX12_beam 34 = .ok (.bipush 8, 2) := by decide +kernel
theorem dX12_beam_36 : decode cX12_beam 36 = .ok (.if_icmp .ne 5, 3) := by decide +kernel
theorem dX12_beam_39 : decode cX12_beam 39 = .ok (.iconst (-1), 1) := by decide +kernel
theorem dX12_beam_40 : decode cX12_beam 40 = .ok (.ireturn, 1) := by decide +kernel
theorem dX12_beam_41 : decode cX12_beam 41 = .ok (.aload_n 0, 1) := by decide +kernel
theorem dX12_beam_42 : decode cX12_beam 42 = .ok (.getfield 92, 3) := by decide +kernel
theorem dX12_beam_45 : decode cX12_beam 45 = .ok (.aload_n 0, 1) := by decide +kernel
theorem dX12_beam_46 : decode cX12_beam 46 = .ok (.getfield 384, 3) := by decide +kernel
theorem dX12_beam_49 : decode cX12_beam 49 = .ok (.iload_n 1, 1) := by decide +kernel
theorem dX12_beam_50 : decode cX12_beam 50 = .ok (.iastore, 1) := by decide +kernel
theorem dX12_beam_51 : decode cX12_beam 51 = .ok (.aload_n 0, 1) := by decide +kernel
theorem dX12_beam_52 : decode cX12_beam 52 = .ok (.getfield 95, 3) := by decide +kernel
theorem dX12_beam_55 : decode cX12_beam 55 = .ok (.aload_n 0, 1) := by decide +kernel
theorem dX12_beam_56 : decode cX12_beam 56 = .ok (.getfield 384, 3) := by decide +kernel
theorem dX12_beam_59 : decode cX12_beam 59 = .ok (.iload_n 2, 1) := by decide +kernel
theorem dX12_beam_60 : decode cX12_beam 60 = .ok (.iastore, 1) := by decide +kernel
theorem dX12_beam_61 : decode cX12_beam 61 = .ok (.aload_n 0, 1) := by decide +kernel
theorem dX12_beam_62 : decode cX12_beam 62 = .ok (.getfield 98, 3) := by decide +kernel
theorem dX12_beam_65 : decode cX12_beam 65 = .ok (.aload_n 0, 1) := by decide +kernel
theorem dX12_beam_66 : decode cX12_beam 66 = .ok (.getfield 384, 3) := by decide +kernel
theorem dX12_beam_69 : decode cX12_beam 69 = .ok (.iload_n 3, 1) := by decide +kernel
theorem dX12_beam_70 : decode cX12_beam 70 = .ok (.iastore, 1) := by decide +kernel
theorem dX12_beam_71 : decode cX12_beam 71 = .ok (.aload_n 0, 1) := by decide +kernel
theorem dX12_beam_72 : decode cX12_beam 72 = .ok (.dup, 1) := by decide +kernel
theorem dX12_beam_73 : decode cX12_beam 73 = .ok (.getfield 384, 3) := by decide +kernel
theorem dX12_beam_76 : decode cX12_beam 76 = .ok (.iconst 1, 1) := by decide +kernel
theorem dX12_beam_77 : decode cX12_beam 77 = .ok (.iadd, 1) := by decide +kernel
theorem dX12_beam_78 : decode cX12_beam 78 = .ok (.putfield 384, 3) := by decide +kernel
theorem dX12_beam_81 : decode cX12_beam 81 = .ok (.aload_n 0, 1) := by decide +kernel
theorem dX12_beam_82 : decode cX12_beam 82 = .ok (.getfield 384, 3) := by decide +kernel
theorem dX12_beam_85 : decode cX12_beam 85 = .ok (.iconst 1, 1) := by decide +kernel
theorem dX12_beam_86 : decode cX12_beam 86 = .ok (.isub, 1) := by decide +kernel
theorem dX12_beam_87 : decode cX12_beam 87 = .ok (.ireturn, 1) := by decide +kernel
theorem dX12_areDone_0 : decode cX12_areDone 0 = .ok (.iconst 1, 1) := by decide +kernel
theorem dX12_areDone_1 : decode cX12_areDone 1 = .ok (.istore_n 2, 1) := by decide +kernel
theorem dX12_areDone_2 : decode cX12_areDone 2 = .ok (.iload_n 2, 1) := by decide +kernel
theorem dX12_areDone_3 : decode cX12_areDone 3 = .ok (.bipush 99, 2) := by decide +kernel
theorem dX12_areDone_5 : decode cX12_areDone 5 = .ok (.if_icmp .gt 79, 3) := by decide +kernel
theorem dX12_areDone_8 : decode cX12_areDone 8 = .ok (.iconst 0, 1) := by decide +kernel
theorem dX12_areDone_9 : decode cX12_areDone 9 = .ok (.istore_n 3, 1) := by decide +kernel
theorem dX12_areDone_10 : decode cX12_areDone 10 = .ok (.iconst 0, 1) := by decide +kernel
theorem dX12_areDone_11 : decode cX12_areDone 11 = .ok (.istore 4, 2) := by decide +kernel
theorem dX12_areDone_13 : decode cX12_areDone 13 = .ok (.iload 4, 2) := by decide +kernel
theorem dX12_areDone_15 : decode cX12_areDone 15 = .ok (.aload_n 0, 1) := by decide +kernel
theorem dX12_areDone_16 : decode cX12_areDone 16 = .ok (.getfield 384, 3) := by decide +kernel
theorem dX12_areDone_19 : decode cX12_areDone 19 = .ok (.if_icmp .ge 43, 3) := by decide +kernel
theorem dX12_areDone_22 : decode cX12_areDone 22 = .ok (.iload_n 3, 1) := by decide +kernel
theorem dX12_areDone_23 : decode cX12_areDone 23 = .ok (.iload_n 1, 1) := by decide +kernel
theorem dX12_areDone_24 : decode cX12_areDone 24 = .ok (.iload 4, 2) := by decide +kernel
theorem dX12_areDone_26 : decode cX12_areDone 26 = .ok (.invokestatic 314, 3) := by decide +kernel
theorem dX12_areDone_29 : decode cX12_areDone 29 = .ok (.ifCond .eq 24, 3) := by decide +kernel
theorem dX12_areDone_32 : decode cX12_areDone 32 = .ok (.aload_n 0, 1) := by decide +kernel
theorem dX12_areDone_33 : decode cX12_areDone 33 = .ok (.getfield 95, 3) := by decide +kernel
theorem dX12_areDone_36 : decode cX12_areDone 36 = .ok (.iload 4, 2) := by decide +kernel
theorem dX12_areDone_38 : decode cX12_areDone 38 = .ok (.iaload, 1) := by decide +kernel
theorem dX12_areDone_39 : decode cX12_areDone 39 = .ok (.iload_n 2, 1) := by decide +kernel
theorem dX12_areDone_40 : decode cX12_areDone 40 = .ok (.if_icmp .gt 13, 3) := by decide +kernel
theorem dX12_areDone_43 : decode cX12_areDone 43 = .ok (.aload_n 0, 1) := by decide +kernel
theorem dX12_areDone_44 : decode cX12_areDone 44 = .ok (.getfield 92, 3) := by decide +kernel
theorem dX12_areDone_47 : decode cX12_areDone 47 = .ok (.iload 4, 2) := by decide +kernel
theorem dX12_areDone_49 : decode cX12_areDone 49 = .ok (.iaload, 1) := by decide +kernel
theorem dX12_areDone_50 : decode cX12_areDone 50 = .ok (.goto 4, 3) := by decide +kernel
theorem dX12_areDone_53 : decode cX12_areDone 53 = .ok (.iconst 0, 1) := by decide +kernel
theorem dX12_areDone_54 : decode cX12_areDone 54 = .ok (.iadd, 1) := by decide +kernel
theorem dX12_areDone_55 : decode cX12_areDone 55 = .ok (.istore_n 3, 1) := by decide +kernel
theorem dX12_areDone_56 : decode cX12_areDone 56 = .ok (.iinc 4 1, 3) := by decide +kernel
theorem dX12_areDone_59 : decode cX12_areDone 59 = .ok (.goto (-46), 3) := by decide +kernel
theorem dX12_areDone_62 : decode cX12_areDone 62 = .ok (.iload_n 3, 1) := by decide +kernel
theorem dX12_areDone_63 : decode cX12_areDone 63 = .ok (.iload_n 2, 1) := by decide +kernel
theorem dX12_areDone_64 : decode cX12_areDone 64 = .ok (.if_icmp .le 14, 3) := by decide +kernel
theorem dX12_areDone_67 : decode cX12_areDone 67 = .ok (.aload_n 0, 1) := by decide +kernel
theorem dX12_areDone_68 : decode cX12_areDone 68 = .ok (.iload_n 1, 1) := by decide +kernel
theorem dX12_areDone_69 : decode cX12_areDone 69 = .ok (.iload_n 2, 1) := by decide +kernel
theorem dX12_areDone_70 : decode cX12_areDone 70 = .ok (.invokevirtual 387, 3) := by decide +kernel
theorem dX12_areDone_73 : decode cX12_areDone 73 = .ok (.ifCond .eq 5, 3) := by decide +kernel
theorem dX12_areDone_76 : decode cX12_areDone 76 = .ok (.iconst 0, 1) := by decide +kernel
theorem dX12_areDone_77 : decode cX12_areDone 77 = .ok (.ireturn, 1) := by decide +kernel
theorem dX12_areDone_78 : decode cX12_areDone 78 = .ok (.iinc 2 1, 3) := by decide +kernel
theorem dX12_areDone_81 : decode cX12_areDone 81 = .ok (.goto (-79), 3) := by decide +kernel
theorem dX12_areDone_84 : decode cX12_areDone 84 = .ok (.iconst 1, 1) := by decide +kernel
theorem dX12_areDone_85 : decode cX12_areDone 85 = .ok (.ireturn, 1) := by decide +kernel
theorem dX12_isDue_0 : decode cX12_isDue 0 = .ok (.iconst 0, 1) := by decide +kernel
theorem dX12_isDue_1 : decode cX12_isDue 1 = .ok (.istore_n 3, 1) := by decide +kernel
theorem dX12_isDue_2 : decode cX12_isDue 2 = .ok (.iload_n 3, 1) := by decide +kernel
theorem dX12_isDue_3 : decode cX12_isDue 3 = .ok (.aload_n 0, 1) := by decide +kernel
theorem dX12_isDue_4 : decode cX12_isDue 4 = .ok (.getfield 384, 3) := by decide +kernel
theorem dX12_isDue_7 : decode cX12_isDue 7 = .ok (.if_icmp .ge 29, 3) := by decide +kernel
theorem dX12_isDue_10 : decode cX12_isDue 10 = .ok (.iload_n 1, 1) := by decide +kernel
theorem dX12_isDue_11 : decode cX12_isDue 11 = .ok (.iload_n 3, 1) := by decide +kernel
theorem dX12_isDue_12 : decode cX12_isDue 12 = .ok (.invokestatic 314, 3) := by decide +kernel
theorem dX12_isDue_15 : decode cX12_isDue 15 = .ok (.ifCond .eq 15, 3) := by decide +kernel
theorem dX12_isDue_18 : decode cX12_isDue 18 = .ok (.aload_n 0, 1) := by decide +kernel
theorem dX12_isDue_19 : decode cX12_isDue 19 = .ok (.getfield 95, 3) := by decide +kernel
theorem dX12_isDue_22 : decode cX12_isDue 22 = .ok (.iload_n 3, 1) := by decide +kernel
theorem dX12_isDue_23 : decode cX12_isDue 23 = .ok (.iaload, 1) := by decide +kernel
theorem dX12_isDue_24 : decode cX12_isDue 24 = .ok (.iload_n 2, 1) := by decide +kernel
theorem dX12_isDue_25 : decode cX12_isDue 25 = .ok (.if_icmp .ne 5, 3) := by decide +kernel
theorem dX12_isDue_28 : decode cX12_isDue 28 = .ok (.iconst 1, 1) := by decide +kernel
theorem dX12_isDue_29 : decode cX12_isDue 29 = .ok (.ireturn, 1) := by decide +kernel
theorem dX12_isDue_30 : decode cX12_isDue 30 = .ok (.iinc 3 1, 3) := by decide +kernel
theorem dX12_isDue_33 : decode cX12_isDue 33 = .ok (.goto (-31), 3) := by decide +kernel
theorem dX12_isDue_36 : decode cX12_isDue 36 = .ok (.iconst 0, 1) := by decide +kernel
theorem dX12_isDue_37 : decode cX12_isDue 37 = .ok (.ireturn, 1) := by decide +kernel
theorem dX12_plan_0 : decode cX12_plan 0 = .ok (.aload_n 0, 1) := by decide +kernel
theorem dX12_plan_1 : decode cX12_plan 1 = .ok (.getfield 384, 3) := by decide +kernel
theorem dX12_plan_4 : decode cX12_plan 4 = .ok (.ifCond .eq 12, 3) := by decide +kernel
theorem dX12_plan_7 : decode cX12_plan 7 = .ok (.iload_n 1, 1) := by decide +kernel
theorem dX12_plan_8 : decode cX12_plan 8 = .ok (.iconst 0, 1) := by decide +kernel
theorem dX12_plan_9 : decode cX12_plan 9 = .ok (.iconst 1, 1) := by decide +kernel
theorem dX12_plan_10 : decode cX12_plan 10 = .ok (.invokestatic 219, 3) := by decide +kernel
theorem dX12_plan_13 : decode cX12_plan 13 = .ok (.ifCond .ne 5, 3) := by decide +kernel
theorem dX12_plan_16 : decode cX12_plan 16 = .ok (.iconst (-1), 1) := by decide +kernel
theorem dX12_plan_17 : decode cX12_plan 17 = .ok (.ireturn, 1) := by decide +kernel
theorem dX12_plan_18 : decode cX12_plan 18 = .ok (.iconst 0, 1) := by decide +kernel
theorem dX12_plan_19 : decode cX12_plan 19 = .ok (.istore_n 2, 1) := by decide +kernel
theorem dX12_plan_20 : decode cX12_plan 20 = .ok (.iconst 0, 1) := by decide +kernel
theorem dX12_plan_21 : decode cX12_plan 21 = .ok (.istore_n 3, 1) := by decide +kernel
theorem dX12_plan_22 : decode cX12_plan 22 = .ok (.iconst 1, 1) := by decide +kernel
theorem dX12_plan_23 : decode cX12_plan 23 = .ok (.istore 4, 2) := by decide +kernel
theorem dX12_plan_25 : decode cX12_plan 25 = .ok (.iload 4, 2) := by decide +kernel
theorem dX12_plan_27 : decode cX12_plan 27 = .ok (.iconst 1, 1) := by decide +kernel
theorem dX12_plan_28 : decode cX12_plan 28 = .ok (.aload_n 0, 1) := by decide +kernel
theorem dX12_plan_29 : decode cX12_plan 29 = .ok (.getfield 384, 3) := by decide +kernel
theorem dX12_plan_32 : decode cX12_plan 32 = .ok (.ishl, 1) := by decide +kernel
theorem dX12_plan_33 : decode cX12_plan 33 = .ok (.if_icmp .ge 77, 3) := by decide +kernel
theorem dX12_plan_36 : decode cX12_plan 36 = .ok (.iconst 0, 1) := by decide +kernel
theorem dX12_plan_37 : decode cX12_plan 37 = .ok (.istore 5, 2) := by decide +kernel
theorem dX12_plan_39 : decode cX12_plan 39 = .ok (.iconst 0, 1) := by decide +kernel
theorem dX12_plan_40 : decode cX12_plan 40 = .ok (.istore 6, 2) := by decide +kernel
theorem dX12_plan_42 : decode cX12_plan 42 = .ok (.iload 6, 2) := by decide +kernel
theorem dX12_plan_44 : decode cX12_plan 44 = .ok (.aload_n 0, 1) := by decide +kernel
theorem dX12_plan_45 : decode cX12_plan 45 = .ok (.getfield 384, 3) := by decide +kernel
theorem dX12_plan_48 : decode cX12_plan 48 = .ok (.if_icmp .ge 35, 3) := by decide +kernel
theorem dX12_plan_51 : decode cX12_plan 51 = .ok (.iload 5, 2) := by decide +kernel
theorem dX12_plan_53 : decode cX12_plan 53 = .ok (.iload 4, 2) := by decide +kernel
theorem dX12_plan_55 : decode cX12_plan 55 = .ok (.iload 6, 2) := by decide +kernel
theorem dX12_plan_57 : decode cX12_plan 57 = .ok (.invokestatic 314, 3) := by decide +kernel
theorem dX12_plan_60 : decode cX12_plan 60 = .ok (.ifCond .eq 13, 3) := by decide +kernel
theorem dX12_plan_63 : decode cX12_plan 63 = .ok (.aload_n 0, 1) := by decide +kernel
theorem dX12_plan_64 : decode cX12_plan 64 = .ok (.getfield 98, 3) := by decide +kernel
theorem dX12_plan_67 : decode cX12_plan 67 = .ok (.iload 6, 2) := by decide +kernel
theorem dX12_plan_69 : decode cX12_plan 69 = .ok (.iaload, 1) := by decide +kernel
theorem dX12_plan_70 : decode cX12_plan 70 = .ok (.goto 4, 3) := by decide +kernel
theorem dX12_plan_73 : decode cX12_plan 73 = .ok (.iconst 0, 1) := by decide +kernel
theorem dX12_plan_74 : decode cX12_plan 74 = .ok (.iadd, 1) := by decide +kernel
theorem dX12_plan_75 : decode cX12_plan 75 = .ok (.istore 5, 2) := by decide +kernel
theorem dX12_plan_77 : decode cX12_plan 77 = .ok (.iinc 6 1, 3) := by decide +kernel
theorem dX12_plan_80 : decode cX12_plan 80 = .ok (.goto (-38), 3) := by decide +kernel
theorem dX12_plan_83 : decode cX12_plan 83 = .ok (.iload 5, 2) := by decide +kernel
theorem dX12_plan_85 : decode cX12_plan 85 = .ok (.iload_n 3, 1) := by decide +kernel
theorem dX12_plan_86 : decode cX12_plan 86 = .ok (.if_icmp .le 18, 3) := by decide +kernel
theorem dX12_plan_89 : decode cX12_plan 89 = .ok (.aload_n 0, 1) := by decide +kernel
theorem dX12_plan_90 : decode cX12_plan 90 = .ok (.iload 4, 2) := by decide +kernel
theorem dX12_plan_92 : decode cX12_plan 92 = .ok (.invokevirtual 390, 3) := by decide +kernel
theorem dX12_plan_95 : decode cX12_plan 95 = .ok (.ifCond .eq 9, 3) := by decide +kernel
theorem dX12_plan_98 : decode cX12_plan 98 = .ok (.iload 4, 2) := by decide +kernel
theorem dX12_plan_100 : decode cX12_plan 100 = .ok (.istore_n 2, 1) := by decide +kernel
theorem dX12_plan_101 : decode cX12_plan 101 = .ok (.iload 5, 2) := by decide +kernel
theorem dX12_plan_103 : decode cX12_plan 103 = .ok (.istore_n 3, 1) := by decide +kernel
theorem dX12_plan_104 : decode cX12_plan 104 = .ok (.iinc 4 1, 3) := by decide +kernel
theorem dX12_plan_107 : decode cX12_plan 107 = .ok (.goto (-82), 3) := by decide +kernel
theorem dX12_plan_110 : decode cX12_plan 110 = .ok (.iload_n 1, 1) := by decide +kernel
theorem dX12_plan_111 : decode cX12_plan 111 = .ok (.ifCond .ne 7, 3) := by decide +kernel
theorem dX12_plan_114 : decode cX12_plan 114 = .ok (.iload_n 3, 1) := by decide +kernel
theorem dX12_plan_115 : decode cX12_plan 115 = .ok (.goto 4, 3) := by decide +kernel
theorem dX12_plan_118 : decode cX12_plan 118 = .ok (.iload_n 2, 1) := by decide +kernel
theorem dX12_plan_119 : decode cX12_plan 119 = .ok (.ireturn, 1) := by decide +kernel
theorem dX12_turned_0 : decode cX12_turned 0 = .ok (.aload_n 0, 1) := by decide +kernel
theorem dX12_turned_1 : decode cX12_turned 1 = .ok (.getfield 40, 3) := by decide +kernel
theorem dX12_turned_4 : decode cX12_turned 4 = .ok (.bipush 24, 2) := by decide +kernel
theorem dX12_turned_6 : decode cX12_turned 6 = .ok (.iload_n 1, 1) := by decide +kernel
theorem dX12_turned_7 : decode cX12_turned 7 = .ok (.imul, 1) := by decide +kernel
theorem dX12_turned_8 : decode cX12_turned 8 = .ok (.iload 5, 2) := by decide +kernel
theorem dX12_turned_10 : decode cX12_turned 10 = .ok (.ifCond .eq 16, 3) := by decide +kernel
theorem dX12_turned_13 : decode cX12_turned 13 = .ok (.aload_n 0, 1) := by decide +kernel
theorem dX12_turned_14 : decode cX12_turned 14 = .ok (.getfield 43, 3) := by decide +kernel
theorem dX12_turned_17 : decode cX12_turned 17 = .ok (.iload_n 1, 1) := by decide +kernel
theorem dX12_turned_18 : decode cX12_turned 18 = .ok (.iaload, 1) := by decide +kernel
theorem dX12_turned_19 : decode cX12_turned 19 = .ok (.iconst 1, 1) := by decide +kernel
theorem dX12_turned_20 : decode cX12_turned 20 = .ok (.isub, 1) := by decide +kernel
theorem dX12_turned_21 : decode cX12_turned 21 = .ok (.iload_n 2, 1) := by decide +kernel
theorem dX12_turned_22 : decode cX12_turned 22 = .ok (.isub, 1) := by decide +kernel
theorem dX12_turned_23 : decode cX12_turned 23 = .ok (.goto 4, 3) := by decide +kernel
theorem dX12_turned_26 : decode cX12_turned 26 = .ok (.iload_n 2, 1) := by decide +kernel
theorem dX12_turned_27 : decode cX12_turned 27 = .ok (.iadd, 1) := by decide +kernel
theorem dX12_turned_28 : decode cX12_turned 28 = .ok (.iaload, 1) := by decide +kernel
theorem dX12_turned_29 : decode cX12_turned 29 = .ok (.istore 7, 2) := by decide +kernel
theorem dX12_turned_31 : decode cX12_turned 31 = .ok (.iload_n 3, 1) := by decide +kernel
theorem dX12_turned_32 : decode cX12_turned 32 = .ok (.iload 4, 2) := by decide +kernel
theorem dX12_turned_34 : decode cX12_turned 34 = .ok (.iload_n 2, 1) := by decide +kernel
theorem dX12_turned_35 : decode cX12_turned 35 = .ok (.imul, 1) := by decide +kernel
theorem dX12_turned_36 : decode cX12_turned 36 = .ok (.iadd, 1) := by decide +kernel
theorem dX12_turned_37 : decode cX12_turned 37 = .ok (.iload 6, 2) := by decide +kernel
theorem dX12_turned_39 : decode cX12_turned 39 = .ok (.ifCond .eq 10, 3) := by decide +kernel
theorem dX12_turned_42 : decode cX12_turned 42 = .ok (.iconst 4, 1) := by decide +kernel
theorem dX12_turned_43 : decode cX12_turned 43 = .ok (.iload 7, 2) := by decide +kernel
theorem dX12_turned_45 : decode cX12_turned 45 = .ok (.isub, 1) := by decide +kernel
theorem dX12_turned_46 : decode cX12_turned 46 = .ok (.goto 5, 3) := by decide +kernel
theorem dX12_turned_49 : decode cX12_turned 49 = .ok (.iload 7, 2) := by decide +kernel
theorem dX12_turned_51 : decode cX12_turned 51 = .ok (.iadd, 1) := by decide +kernel
theorem dX12_turned_52 : decode cX12_turned 52 = .ok (.iconst 3, 1) := by decide +kernel
theorem dX12_turned_53 : decode cX12_turned 53 = .ok (.iand, 1) := by decide +kernel
theorem dX12_turned_54 : decode cX12_turned 54 = .ok (.ireturn, 1) := by decide +kernel
theorem dX12_areAlike_0 : decode cX12_areAlike 0 = .ok (.iconst 0, 1) := by decide +kernel
theorem dX12_areAlike_1 : decode cX12_areAlike 1 = .ok (.istore 6, 2) := by decide +kernel
theorem dX12_areAlike_3 : decode cX12_areAlike 3 = .ok (.iload 6, 2) := by decide +kernel
theorem dX12_areAlike_5 : decode cX12_areAlike 5 = .ok (.aload_n 0, 1) := by decide +kernel
theorem dX12_areAlike_6 : decode cX12_areAlike 6 = .ok (.getfield 43, 3) := by decide +kernel
theorem dX12_areAlike_9 : decode cX12_areAlike 9 = .ok (.iload_n 1, 1) := by decide +kernel
theorem dX12_areAlike_10 : decode cX12_areAlike 10 = .ok (.iaload, 1) := by decide +kernel
theorem dX12_areAlike_11 : decode cX12_areAlike 11 = .ok (.if_icmp .ge 48, 3) := by decide +kernel
theorem dX12_areAlike_14 : decode cX12_areAlike 14 = .ok (.aload_n 0, 1) := by decide +kernel
theorem dX12_areAlike_15 : decode cX12_areAlike 15 = .ok (.iload_n 1, 1) := by decide +kernel
theorem dX12_areAlike_16 : decode cX12_areAlike 16 = .ok (.iload 6, 2) := by decide +kernel
theorem dX12_areAlike_18 : decode cX12_areAlike 18 = .ok (.iload_n 3, 1) := by decide +kernel
theorem dX12_areAlike_19 : decode cX12_areAlike 19 = .ok (.iload 4, 2) := by decide +kernel
theorem dX12_areAlike_21 : decode cX12_areAlike 21 = .ok (.iload 5, 2) := by decide +kernel
theorem dX12_areAlike_23 : decode cX12_areAlike 23 = .ok (.iconst 0, 1) := by decide +kernel
theorem dX12_areAlike_24 : decode cX12_areAlike 24 = .ok (.invokestatic 314, 3) := by decide +kernel
theorem dX12_areAlike_27 : decode cX12_areAlike 27 = .ok (.iload 5, 2) := by decide +kernel
theorem dX12_areAlike_29 : decode cX12_areAlike 29 = .ok (.iconst 1, 1) := by decide +kernel
theorem dX12_areAlike_30 : decode cX12_areAlike 30 = .ok (.invokestatic 314, 3) := by decide +kernel
theorem dX12_areAlike_33 : decode cX12_areAlike 33 = .ok (.invokevirtual 393, 3) := by decide +kernel
theorem dX12_areAlike_36 : decode cX12_areAlike 36 = .ok (.aload_n 0, 1) := by decide +kernel
theorem dX12_areAlike_37 : decode cX12_areAlike 37 = .ok (.getfield 40, 3) := by decide +kernel
theorem dX12_areAlike_40 : decode cX12_areAlike 40 = .ok (.bipush 24, 2) := by decide +kernel
theorem dX12_areAlike_42 : decode cX12_areAlike 42 = .ok (.iload_n 2, 1) := by decide +kernel
theorem dX12_areAlike_43 : decode cX12_areAlike 43 = .ok (.imul, 1) := by decide +kernel
theorem dX12_areAlike_44 : decode cX12_areAlike 44 = .ok (.iload 6, 2) := by decide +kernel
theorem dX12_areAlike_46 : decode cX12_areAlike 46 = .ok (.iadd, 1) := by decide +kernel
theorem dX12_areAlike_47 : decode cX12_areAlike 47 = .ok (.iaload, 1) := by decide +kernel
theorem dX12_areAlike_48 : decode cX12_areAlike 48 = .ok (.if_icmp .eq 5, 3) := by decide +kernel
theorem dX12_areAlike_51 : decode cX12_areAlike 51 = .ok (.iconst 0, 1) := by decide +kernel
theorem dX12_areAlike_52 : decode cX12_areAlike 52 = .ok (.ireturn, 1) := by decide +kernel
theorem dX12_areAlike_53 : decode cX12_areAlike 53 = .ok (.iinc 6 1, 3) := by decide +kernel
theorem dX12_areAlike_56 : decode cX12_areAlike 56 = .ok (.goto (-53), 3) := by decide +kernel
theorem dX12_areAlike_59 : decode cX12_areAlike 59 = .ok (.iconst 1, 1) := by decide +kernel
theorem dX12_areAlike_60 : decode cX12_areAlike 60 = .ok (.ireturn, 1) := by decide +kernel
theorem dX12_like_0 : decode cX12_like 0 = .ok (.aload_n 0, 1) := by decide +kernel
theorem dX12_like_1 : decode cX12_like 1 = .ok (.iload_n 1, 1) := by decide +kernel
theorem dX12_like_2 : decode cX12_like 2 = .ok (.invokevirtual 244, 3) := by decide +kernel
theorem dX12_like_5 : decode cX12_like 5 = .ok (.ifCond .eq 11, 3) := by decide +kernel
theorem dX12_like_8 : decode cX12_like 8 = .ok (.aload_n 0, 1) := by decide +kernel
theorem dX12_like_9 : decode cX12_like 9 = .ok (.iload_n 2, 1) := by decide +kernel
theorem dX12_like_10 : decode cX12_like 10 = .ok (.invokevirtual 244, 3) := by decide +kernel
theorem dX12_like_13 : decode cX12_like 13 = .ok (.ifCond .ne 5, 3) := by decide +kernel
theorem dX12_like_16 : decode cX12_like 16 = .ok (.iconst (-1), 1) := by decide +kernel
theorem dX12_like_17 : decode cX12_like 17 = .ok (.ireturn, 1) := by decide +kernel
theorem dX12_like_18 : decode cX12_like 18 = .ok (.iconst 0, 1) := by decide +kernel
theorem dX12_like_19 : decode cX12_like 19 = .ok (.istore_n 3, 1) := by decide +kernel
theorem dX12_like_20 : decode cX12_like 20 = .ok (.iload_n 3, 1) := by decide +kernel
theorem dX12_like_21 : decode cX12_like 21 = .ok (.iconst 4, 1) := by decide +kernel
theorem dX12_like_22 : decode cX12_like 22 = .ok (.if_icmp .ge 70, 3) := by decide +kernel
theorem dX12_like_25 : decode cX12_like 25 = .ok (.aload_n 0, 1) := by decide +kernel
theorem dX12_like_26 : decode cX12_like 26 = .ok (.getfield 43, 3) := by decide +kernel
theorem dX12_like_29 : decode cX12_like 29 = .ok (.iload_n 1, 1) := by decide +kernel
theorem dX12_like_30 : decode cX12_like 30 = .ok (.iaload, 1) := by decide +kernel
theorem dX12_like_31 : decode cX12_like 31 = .ok (.aload_n 0, 1) := by decide +kernel
theorem dX12_like_32 : decode cX12_like 32 = .ok (.getfield 43, 3) := by decide +kernel
theorem dX12_like_35 : decode cX12_like 35 = .ok (.iload_n 2, 1) := by decide +kernel
theorem dX12_like_36 : decode cX12_like 36 = .ok (.iaload, 1) := by decide +kernel
theorem dX12_like_37 : decode cX12_like 37 = .ok (.if_icmp .ne 55, 3) := by decide +kernel
theorem dX12_like_40 : decode cX12_like 40 = .ok (.iconst 0, 1) := by decide +kernel
theorem dX12_like_41 : decode cX12_like 41 = .ok (.istore 4, 2) := by decide +kernel
theorem dX12_like_43 : decode cX12_like 43 = .ok (.iload 4, 2) := by decide +kernel
theorem dX12_like_45 : decode cX12_like 45 = .ok (.iconst 4, 1) := by decide +kernel
theorem dX12_like_46 : decode cX12_like 46 = .ok (.if_icmp .ge 40, 3) := by decide +kernel
theorem dX12_like_49 : decode cX12_like 49 = .ok (.iconst 0, 1) := by decide +kernel
theorem dX12_like_50 : decode cX12_like 50 = .ok (.istore 5, 2) := by decide +kernel
theorem dX12_like_52 : decode cX12_like 52 = .ok (.iload 5, 2) := by decide +kernel
theorem dX12_like_54 : decode cX12_like 54 = .ok (.iconst 4, 1) := by decide +kernel
theorem dX12_like_55 : decode cX12_like 55 = .ok (.if_icmp .ge 25, 3) := by decide +kernel
theorem dX12_like_58 : decode cX12_like 58 = .ok (.aload_n 0, 1) := by decide +kernel
theorem dX12_like_59 : decode cX12_like 59 = .ok (.iload_n 1, 1) := by decide +kernel
theorem dX12_like_60 : decode cX12_like 60 = .ok (.iload_n 2, 1) := by decide +kernel
theorem dX12_like_61 : decode cX12_like 61 = .ok (.iload_n 3, 1) := by decide +kernel
theorem dX12_like_62 : decode cX12_like 62 = .ok (.iload 4, 2) := by decide +kernel
theorem dX12_like_64 : decode cX12_like 64 = .ok (.iload 5, 2) := by decide +kernel
theorem dX12_like_66 : decode cX12_like 66 = .ok (.invokevirtual 397, 3) := by decide +kernel
theorem dX12_like_69 : decode cX12_like 69 = .ok (.ifCond .eq 5, 3) := by decide +kernel
theorem dX12_like_72 : decode cX12_like 72 = .ok (.iconst 1, 1) := by decide +kernel
theorem dX12_like_73 : decode cX12_like 73 = .ok (.ireturn, 1) := by decide +kernel
theorem dX12_like_74 : decode cX12_like 74 = .ok (.iinc 5 1, 3) := by decide +kernel
theorem dX12_like_77 : decode cX12_like 77 = .ok (.goto (-25), 3) := by decide +kernel
theorem dX12_like_80 : decode cX12_like 80 = .ok (.iinc 4 1, 3) := by decide +kernel
theorem dX12_like_83 : decode cX12_like 83 = .ok (.goto (-40), 3) := by decide +kernel
theorem dX12_like_86 : decode cX12_like 86 = .ok (.iinc 3 1, 3) := by decide +kernel
theorem dX12_like_89 : decode cX12_like 89 = .ok (.goto (-69), 3) := by decide +kernel
theorem dX12_like_92 : decode cX12_like 92 = .ok (.iconst 0, 1) := by decide +kernel
theorem dX12_like_93 : decode cX12_like 93 = .ok (.ireturn, 1) := by decide +kernel
theorem dX12_partners_0 : decode cX12_partners 0 = .ok (.aload_n 0, 1) := by decide +kernel
theorem dX12_partners_1 : decode cX12_partners 1 = .ok (.iload_n 1, 1) := by decide +kernel
theorem dX12_partners_2 : decode cX12_partners 2 = .ok (.invokevirtual 244, 3) := by decide +kernel
theorem dX12_partners_5 : decode cX12_partners 5 = .ok (.ifCond .eq 26, 3) := by decide +kernel
theorem dX12_partners_8 : decode cX12_partners 8 = .ok (.aload_n 0, 1) := by decide +kernel
theorem dX12_partners_9 : decode cX12_partners 9 = .ok (.iload_n 2, 1) := by decide +kernel
theorem dX12_partners_10 : decode cX12_partners 10 = .ok (.invokevirtual 244, 3) := by decide +kernel
theorem dX12_partners_13 : decode cX12_partners 13 = .ok (.ifCond .eq 18, 3) := by decide +kernel
theorem dX12_partners_16 : decode cX12_partners 16 = .ok (.aload_n 0, 1) := by decide +kernel
theorem dX12_partners_17 : decode cX12_partners 17 = .ok (.getfield 43, 3) := by decide +kernel
theorem dX12_partners_20 : decode cX12_partners 20 = .ok (.iload_n 1, 1) := by decide +kernel
theorem dX12_partners_21 : decode cX12_partners 21 = .ok (.iaload, 1) := by decide +kernel
theorem dX12_partners_22 : decode cX12_partners 22 = .ok (.aload_n 0, 1) := by decide +kernel
theorem dX12_partners_23 : decode cX12_partners 23 = .ok (.getfield 43, 3) := by decide +kernel
theorem dX12_partners_26 : decode cX12_partners 26 = .ok (.iload_n 2, 1) := by decide +kernel
theorem dX12_partners_27 : decode cX12_partners 27 = .ok (.iaload, 1) := by decide +kernel
theorem dX12_partners_28 : decode cX12_partners 28 = .ok (.if_icmp .eq 5, 3) := by decide +kernel
theorem dX12_partners_31 : decode cX12_partners 31 = .ok (.iconst (-1), 1) := by decide +kernel
theorem dX12_partners_32 : decode cX12_partners 32 = .ok (.ireturn, 1) := by decide +kernel
theorem dX12_partners_33 : decode cX12_partners 33 = .ok (.aload_n 0, 1) := by decide +kernel
theorem dX12_partners_34 : decode cX12_partners 34 = .ok (.iload_n 1, 1) := by decide +kernel
theorem dX12_partners_35 : decode cX12_partners 35 = .ok (.iconst (-1), 1) := by decide +kernel
theorem dX12_partners_36 : decode cX12_partners 36 = .ok (.invokevirtual 278, 3) := by decide +kernel
theorem dX12_partners_39 : decode cX12_partners 39 = .ok (.iconst 0, 1) := by decide +kernel
theorem dX12_partners_40 : decode cX12_partners 40 = .ok (.istore_n 3, 1) := by decide +kernel
theorem dX12_partners_41 : decode cX12_partners 41 = .ok (.bipush (-23), 2) := by decide +kernel
theorem dX12_partners_43 : decode cX12_partners 43 = .ok (.istore 4, 2) := by decide +kernel
theorem dX12_partners_45 : decode cX12_partners 45 = .ok (.iload 4, 2) := by decide +kernel
theorem dX12_partners_47 : decode cX12_partners 47 = .ok (.bipush 24, 2) := by decide +kernel
theorem dX12_partners_49 : decode cX12_partners 49 = .ok (.if_icmp .ge 84, 3) := by decide +kernel
theorem dX12_partners_52 : decode cX12_partners 52 = .ok (.aload_n 0, 1) := by decide +kernel
theorem dX12_partners_53 : decode cX12_partners 53 = .ok (.iload_n 1, 1) := by decide +kernel
theorem dX12_partners_54 : decode cX12_partners 54 = .ok (.iload_n 1, 1) := by decide +kernel
theorem dX12_partners_55 : decode cX12_partners 55 = .ok (.iload 4, 2) := by decide +kernel
theorem dX12_partners_57 : decode cX12_partners 57 = .ok (.iconst 0, 1) := by decide +kernel
theorem dX12_partners_58 : decode cX12_partners 58 = .ok (.invokevirtual 281, 3) := by decide +kernel
theorem dX12_partners_61 : decode cX12_partners 61 = .ok (.aload_n 0, 1) := by decide +kernel
theorem dX12_partners_62 : decode cX12_partners 62 = .ok (.getfield 269, 3) := by decide +kernel
theorem dX12_partners_65 : decode cX12_partners 65 = .ok (.istore 5, 2) := by decide +kernel
theorem dX12_partners_67 : decode cX12_partners 67 = .ok (.aload_n 0, 1) := by decide +kernel
theorem dX12_partners_68 : decode cX12_partners 68 = .ok (.getfield 272, 3) := by decide +kernel
theorem dX12_partners_71 : decode cX12_partners 71 = .ok (.istore 6, 2) := by decide +kernel
theorem dX12_partners_73 : decode cX12_partners 73 = .ok (.aload_n 0, 1) := by decide +kernel
theorem dX12_partners_74 : decode cX12_partners 74 = .ok (.iload_n 2, 1) := by decide +kernel
theorem dX12_partners_75 : decode cX12_partners 75 = .ok (.iload_n 2, 1) := by decide +kernel
theorem dX12_partners_76 : decode cX12_partners 76 = .ok (.iload 4, 2) := by decide +kernel
theorem dX12_partners_78 : decode cX12_partners 78 = .ok (.iconst 0, 1) := by decide +kernel
theorem dX12_partners_79 : decode cX12_partners 79 = .ok (.invokevirtual 281, 3) := by decide +kernel
theorem dX12_partners_82 : decode cX12_partners 82 = .ok (.iload 4, 2) := by decide +kernel
theorem dX12_partners_84 : decode cX12_partners 84 = .ok (.ifCond .eq 41, 3) := by decide +kernel
theorem dX12_partners_87 : decode cX12_partners 87 = .ok (.iload_n 3, 1) := by decide +kernel
theorem dX12_partners_88 : decode cX12_partners 88 = .ok (.iload 5, 2) := by decide +kernel
theorem dX12_partners_90 : decode cX12_partners 90 = .ok (.aload_n 0, 1) := by decide +kernel
theorem dX12_partners_91 : decode cX12_partners 91 = .ok (.getfield 269, 3) := by decide +kernel
theorem dX12_partners_94 : decode cX12_partners 94 = .ok (.iadd, 1) := by decide +kernel
theorem dX12_partners_95 : decode cX12_partners 95 = .ok (.iload 5, 2) := by decide +kernel
theorem dX12_partners_97 : decode cX12_partners 97 = .ok (.aload_n 0, 1) := by decide +kernel
theorem dX12_partners_98 : decode cX12_partners 98 = .ok (.getfield 269, 3) := by decide +kernel
theorem dX12_partners_101 : decode cX12_partners 101 = .ok (.iadd, 1) := by decide +kernel
theorem dX12_partners_102 : decode cX12_partners 102 = .ok (.imul, 1) := by decide +kernel
theorem dX12_partners_103 : decode cX12_partners 103 = .ok (.iload 6, 2) := by decide +kernel
theorem dX12_partners_105 : decode cX12_partners 105 = .ok (.aload_n 0, 1) := by decide +kernel
theorem dX12_partners_106 : decode cX12_partners 106 = .ok (.getfield 272, 3) := by decide +kernel
theorem dX12_partners_109 : decode cX12_partners 109 = .ok (.iadd, 1) := by decide +kernel
theorem dX12_partners_110 : decode cX12_partners 110 = .ok (.iload 6, 2) := by decide +kernel
theorem dX12_partners_112 : decode cX12_partners 112 = .ok (.aload_n 0, 1) := by decide +kernel
theorem dX12_partners_113 : decode cX12_partners 113 = .ok (.getfield 272, 3) := by decide +kernel
theorem dX12_partners_116 : decode cX12_partners 116 = .ok (.iadd, 1) := by decide +kernel
theorem dX12_partners_117 : decode cX12_partners 117 = .ok (.imul, 1) := by decide +kernel
theorem dX12_partners_118 : decode cX12_partners 118 = .ok (.iadd, 1) := by decide +kernel
theorem dX12_partners_119 : decode cX12_partners 119 = .ok (.invokestatic 260, 3) := by decide +kernel
theorem dX12_partners_122 : decode cX12_partners 122 = .ok (.goto 4, 3) := by decide +kernel
theorem dX12_partners_125 : decode cX12_partners 125 = .ok (.iload_n 3, 1) := by decide +kernel
theorem dX12_partners_126 : decode cX12_partners 126 = .ok (.istore_n 3, 1) := by decide +kernel
theorem dX12_partners_127 : decode cX12_partners 127 = .ok (.iinc 4 1, 3) := by decide +kernel
theorem dX12_partners_130 : decode cX12_partners 130 = .ok (.goto (-85), 3) := by decide +kernel
theorem dX12_partners_133 : decode cX12_partners 133 = .ok (.iload_n 3, 1) := by decide +kernel
theorem dX12_partners_134 : decode cX12_partners 134 = .ok (.ireturn, 1) := by decide +kernel
theorem dX12_cancel_0 : decode cX12_cancel 0 = .ok (.iload_n 1, 1) := by decide +kernel
theorem dX12_cancel_1 : decode cX12_cancel 1 = .ok (.iconst 1, 1) := by decide +kernel
theorem dX12_cancel_2 : decode cX12_cancel 2 = .ok (.bipush 8, 2) := by decide +kernel
theorem dX12_cancel_4 : decode cX12_cancel 4 = .ok (.invokestatic 219, 3) := by decide +kernel
theorem dX12_cancel_7 : decode cX12_cancel 7 = .ok (.ifCond .eq 12, 3) := by decide +kernel
theorem dX12_cancel_10 : decode cX12_cancel 10 = .ok (.iload_n 2, 1) := by decide +kernel
theorem dX12_cancel_11 : decode cX12_cancel 11 = .ok (.iconst 0, 1) := by decide +kernel
theorem dX12_cancel_12 : decode cX12_cancel 12 = .ok (.iconst 3, 1) := by decide +kernel
theorem dX12_cancel_13 : decode cX12_cancel 13 = .ok (.invokestatic 219, 3) := by decide +kernel
theorem dX12_cancel_16 : decode cX12_cancel 16 = .ok (.ifCond .ne 5, 3) := by decide +kernel
theorem dX12_cancel_19 : decode cX12_cancel 19 = .ok (.iconst (-1), 1) := by decide +kernel
theorem dX12_cancel_20 : decode cX12_cancel 20 = .ok (.ireturn, 1) := by decide +kernel
theorem dX12_cancel_21 : decode cX12_cancel 21 = .ok (.iconst 0, 1) := by decide +kernel
theorem dX12_cancel_22 : decode cX12_cancel 22 = .ok (.istore_n 3, 1) := by decide +kernel
theorem dX12_cancel_23 : decode cX12_cancel 23 = .ok (.iconst 0, 1) := by decide +kernel
theorem dX12_cancel_24 : decode cX12_cancel 24 = .ok (.istore 4, 2) := by decide +kernel
theorem dX12_cancel_26 : decode cX12_cancel 26 = .ok (.iconst 0, 1) := by decide +kernel
theorem dX12_cancel_27 : decode cX12_cancel 27 = .ok (.istore 5, 2) := by decide +kernel
theorem dX12_cancel_29 : decode cX12_cancel 29 = .ok (.iload 5, 2) := by decide +kernel
theorem dX12_cancel_31 : decode cX12_cancel 31 = .ok (.iload_n 1, 1) := by decide +kernel
theorem dX12_cancel_32 : decode cX12_cancel 32 = .ok (.if_icmp .gt 58, 3) := by decide +kernel
theorem dX12_cancel_35 : decode cX12_cancel 35 = .ok (.iload_n 1, 1) := by decide +kernel
theorem dX12_cancel_36 : decode cX12_cancel 36 = .ok (.iload 5, 2) := by decide +kernel
theorem dX12_cancel_38 : decode cX12_cancel 38 = .ok (.invokestatic 371, 3) := by decide +kernel
theorem dX12_cancel_41 : decode cX12_cancel 41 = .ok (.l2i, 1) := by decide +kernel
theorem dX12_cancel_42 : decode cX12_cancel 42 = .ok (.istore 6, 2) := by decide +kernel
theorem dX12_cancel_44 : decode cX12_cancel 44 = .ok (.iload_n 3, 1) := by decide +kernel
theorem dX12_cancel_45 : decode cX12_cancel 45 = .ok (.iload 6, 2) := by decide +kernel
theorem dX12_cancel_47 : decode cX12_cancel 47 = .ok (.iconst 2, 1) := by decide +kernel
theorem dX12_cancel_48 : decode cX12_cancel 48 = .ok (.iload 5, 2) := by decide +kernel
theorem dX12_cancel_50 : decode cX12_cancel 50 = .ok (.imul, 1) := by decide +kernel
theorem dX12_cancel_51 : decode cX12_cancel 51 = .ok (.iload_n 2, 1) := by decide +kernel
theorem dX12_cancel_52 : decode cX12_cancel 52 = .ok (.iload 5, 2) := by decide +kernel
theorem dX12_cancel_54 : decode cX12_cancel 54 = .ok (.imul, 1) := by decide +kernel
theorem dX12_cancel_55 : decode cX12_cancel 55 = .ok (.iadd, 1) := by decide +kernel
theorem dX12_cancel_56 : decode cX12_cancel 56 = .ok (.iconst 1, 1) := by decide +kernel
theorem dX12_cancel_57 : decode cX12_cancel 57 = .ok (.invokestatic 250, 3) := by decide +kernel
theorem dX12_cancel_60 : decode cX12_cancel 60 = .ok (.imul, 1) := by decide +kernel
theorem dX12_cancel_61 : decode cX12_cancel 61 = .ok (.iadd, 1) := by decide +kernel
theorem dX12_cancel_62 : decode cX12_cancel 62 = .ok (.istore_n 3, 1) := by decide +kernel
theorem dX12_cancel_63 : decode cX12_cancel 63 = .ok (.iload 4, 2) := by decide +kernel
theorem dX12_cancel_65 : decode cX12_cancel 65 = .ok (.iload 6, 2) := by decide +kernel
theorem dX12_cancel_67 : decode cX12_cancel 67 = .ok (.iconst 2, 1) := by decide +kernel
theorem dX12_cancel_68 : decode cX12_cancel 68 = .ok (.iload 5, 2) := by decide +kernel
theorem dX12_cancel_70 : decode cX12_cancel 70 = .ok (.imul, 1) := by decide +kernel
theorem dX12_cancel_71 : decode cX12_cancel 71 = .ok (.iload_n 2, 1) := by decide +kernel
theorem dX12_cancel_72 : decode cX12_cancel 72 = .ok (.iload 5, 2) := by decide +kernel
theorem dX12_cancel_74 : decode cX12_cancel 74 = .ok (.imul, 1) := by decide +kernel
theorem dX12_cancel_75 : decode cX12_cancel 75 = .ok (.iadd, 1) := by decide +kernel
theorem dX12_cancel_76 : decode cX12_cancel 76 = .ok (.iconst 0, 1) := by decide +kernel
theorem dX12_cancel_77 : decode cX12_cancel 77 = .ok (.invokestatic 250, 3) := by decide +kernel
theorem dX12_cancel_80 : decode cX12_cancel 80 = .ok (.imul, 1) := by decide +kernel
theorem dX12_cancel_81 : decode cX12_cancel 81 = .ok (.iadd, 1) := by decide +kernel
theorem dX12_cancel_82 : decode cX12_cancel 82 = .ok (.istore 4, 2) := by decide +kernel
theorem dX12_cancel_84 : decode cX12_cancel 84 = .ok (.iinc 5 1, 3) := by decide +kernel
theorem dX12_cancel_87 : decode cX12_cancel 87 = .ok (.goto (-58), 3) := by decide +kernel
theorem dX12_cancel_90 : decode cX12_cancel 90 = .ok (.iload_n 3, 1) := by decide +kernel
theorem dX12_cancel_91 : decode cX12_cancel 91 = .ok (.iload_n 3, 1) := by decide +kernel
theorem dX12_cancel_92 : decode cX12_cancel 92 = .ok (.imul, 1) := by decide +kernel
theorem dX12_cancel_93 : decode cX12_cancel 93 = .ok (.iload 4, 2) := by decide +kernel
theorem dX12_cancel_95 : decode cX12_cancel 95 = .ok (.iload 4, 2) := by decide +kernel
theorem dX12_cancel_97 : decode cX12_cancel 97 = .ok (.imul, 1) := by decide +kernel
theorem dX12_cancel_98 : decode cX12_cancel 98 = .ok (.iadd, 1) := by decide +kernel
theorem dX12_cancel_99 : decode cX12_cancel 99 = .ok (.ireturn, 1) := by decide +kernel
theorem dX12_seenBy_0 : decode cX12_seenBy 0 = .ok (.iconst 0, 1) := by decide +kernel
theorem dX12_seenBy_1 : decode cX12_seenBy 1 = .ok (.istore 5, 2) := by decide +kernel
theorem dX12_seenBy_3 : decode cX12_seenBy 3 = .ok (.iconst 1, 1) := by decide +kernel
theorem dX12_seenBy_4 : decode cX12_seenBy 4 = .ok (.istore 6, 2) := by decide +kernel
theorem dX12_seenBy_6 : decode cX12_seenBy 6 = .ok (.iload 6, 2) := by decide +kernel
theorem dX12_seenBy_8 : decode cX12_seenBy 8 = .ok (.iload 4, 2) := by decide +kernel
theorem dX12_seenBy_10 : decode cX12_seenBy 10 = .ok (.if_icmp .gt 96, 3) := by decide +kernel
theorem dX12_seenBy_13 : decode cX12_seenBy 13 = .ok (.iload 6, 2) := by decide +kernel
theorem dX12_seenBy_15 : decode cX12_seenBy 15 = .ok (.iload_n 1, 1) := by decide +kernel
theorem dX12_seenBy_16 : decode cX12_seenBy 16 = .ok (.irem, 1) := by decide +kernel
theorem dX12_seenBy_17 : decode cX12_seenBy 17 = .ok (.aload_n 0, 1) := by decide +kernel
theorem dX12_seenBy_18 : decode cX12_seenBy 18 = .ok (.getfield 55, 3) := by decide +kernel
theorem dX12_seenBy_21 : decode cX12_seenBy 21 = .ok (.if_icmp .lt 7, 3) := by decide +kernel
theorem dX12_seenBy_24 : decode cX12_seenBy 24 = .ok (.iconst 1, 1) := by decide +kernel
theorem dX12_seenBy_25 : decode cX12_seenBy 25 = .ok (.goto 4, 3) := by decide +kernel
theorem dX12_seenBy_28 : decode cX12_seenBy 28 = .ok (.iconst 0, 1) := by decide +kernel
theorem dX12_seenBy_29 : decode cX12_seenBy 29 = .ok (.istore 7, 2) := by decide +kernel
theorem dX12_seenBy_31 : decode cX12_seenBy 31 = .ok (.iload 7, 2) := by decide +kernel
theorem dX12_seenBy_33 : decode cX12_seenBy 33 = .ok (.iload_n 2, 1) := by decide +kernel
theorem dX12_seenBy_34 : decode cX12_seenBy 34 = .ok (.ifCond .le 18, 3) := by decide +kernel
theorem dX12_seenBy_37 : decode cX12_seenBy 37 = .ok (.iload 6, 2) := by decide +kernel
theorem dX12_seenBy_39 : decode cX12_seenBy 39 = .ok (.iload_n 2, 1) := by decide +kernel
theorem dX12_seenBy_40 : decode cX12_seenBy 40 = .ok (.irem, 1) := by decide +kernel
theorem dX12_seenBy_41 : decode cX12_seenBy 41 = .ok (.aload_n 0, 1) := by decide +kernel
theorem dX12_seenBy_42 : decode cX12_seenBy 42 = .ok (.getfield 55, 3) := by decide +kernel
theorem dX12_seenBy_45 : decode cX12_seenBy 45 = .ok (.if_icmp .lt 7, 3) := by decide +kernel
theorem dX12_seenBy_48 : decode cX12_seenBy 48 = .ok (.iconst 1, 1) := by decide +kernel
theorem dX12_seenBy_49 : decode cX12_seenBy 49 = .ok (.goto 4, 3) := by decide +kernel
theorem dX12_seenBy_52 : decode cX12_seenBy 52 = .ok (.iconst 0, 1) := by decide +kernel
theorem dX12_seenBy_53 : decode cX12_seenBy 53 = .ok (.iadd, 1) := by decide +kernel
theorem dX12_seenBy_54 : decode cX12_seenBy 54 = .ok (.istore 7, 2) := by decide +kernel
theorem dX12_seenBy_56 : decode cX12_seenBy 56 = .ok (.iload 7, 2) := by decide +kernel
theorem dX12_seenBy_58 : decode cX12_seenBy 58 = .ok (.iload_n 3, 1) := by decide +kernel
theorem dX12_seenBy_59 : decode cX12_seenBy 59 = .ok (.ifCond .le 18, 3) := by decide +kernel
theorem dX12_seenBy_62 : decode cX12_seenBy 62 = .ok (.iload 6, 2) := by decide +kernel
theorem dX12_seenBy_64 : decode cX12_seenBy 64 = .ok (.iload_n 3, 1) := by decide +kernel
theorem dX12_seenBy_65 : decode cX12_seenBy 65 = .ok (.irem, 1) := by decide +kernel
theorem dX12_seenBy_66 : decode cX12_seenBy 66 = .ok (.aload_n 0, 1) := by decide +kernel
theorem dX12_seenBy_67 : decode cX12_seenBy 67 = .ok (.getfield 55, 3) := by decide +kernel
theorem dX12_seenBy_70 : decode cX12_seenBy 70 = .ok (.if_icmp .lt 7, 3) := by decide +kernel
theorem dX12_seenBy_73 : decode cX12_seenBy 73 = .ok (.iconst 1, 1) := by decide +kernel
theorem dX12_seenBy_74 : decode cX12_seenBy 74 = .ok (.goto 4, 3) := by decide +kernel
theorem dX12_seenBy_77 : decode cX12_seenBy 77 = .ok (.iconst 0, 1) := by decide +kernel
theorem dX12_seenBy_78 : decode cX12_seenBy 78 = .ok (.iadd, 1) := by decide +kernel
theorem dX12_seenBy_79 : decode cX12_seenBy 79 = .ok (.istore 7, 2) := by decide +kernel
theorem dX12_seenBy_81 : decode cX12_seenBy 81 = .ok (.iload 5, 2) := by decide +kernel
theorem dX12_seenBy_83 : decode cX12_seenBy 83 = .ok (.iload 7, 2) := by decide +kernel
theorem dX12_seenBy_85 : decode cX12_seenBy 85 = .ok (.aload_n 0, 1) := by decide +kernel
theorem dX12_seenBy_86 : decode cX12_seenBy 86 = .ok (.getfield 59, 3) := by decide +kernel
theorem dX12_seenBy_89 : decode cX12_seenBy 89 = .ok (.if_icmp .lt 7, 3) := by decide +kernel
theorem dX12_seenBy_92 : decode cX12_seenBy 92 = .ok (.iconst 1, 1) := by decide +kernel
theorem dX12_seenBy_93 : decode cX12_seenBy 93 = .ok (.goto 4, 3) := by decide +kernel
theorem dX12_seenBy_96 : decode cX12_seenBy 96 = .ok (.iconst 0, 1) := by decide +kernel
theorem dX12_seenBy_97 : decode cX12_seenBy 97 = .ok (.iadd, 1) := by decide +kernel
theorem dX12_seenBy_98 : decode cX12_seenBy 98 = .ok (.istore 5, 2) := by decide +kernel
theorem dX12_seenBy_100 : decode cX12_seenBy 100 = .ok (.iinc 6 1, 3) := by decide +kernel
theorem dX12_seenBy_103 : decode cX12_seenBy 103 = .ok (.goto (-97), 3) := by decide +kernel
theorem dX12_seenBy_106 : decode cX12_seenBy 106 = .ok (.iload 5, 2) := by decide +kernel
theorem dX12_seenBy_108 : decode cX12_seenBy 108 = .ok (.ireturn, 1) := by decide +kernel
theorem dX12_stagger_0 : decode cX12_stagger 0 = .ok (.iload_n 1, 1) := by decide +kernel
theorem dX12_stagger_1 : decode cX12_stagger 1 = .ok (.iconst 1, 1) := by decide +kernel
theorem dX12_stagger_2 : decode cX12_stagger 2 = .ok (.iconst 3, 1) := by decide +kernel
theorem dX12_stagger_3 : decode cX12_stagger 3 = .ok (.invokestatic 219, 3) := by decide +kernel
theorem dX12_stagger_6 : decode cX12_stagger 6 = .ok (.ifCond .eq 49, 3) := by decide +kernel
theorem dX12_stagger_9 : decode cX12_stagger 9 = .ok (.iload_n 2, 1) := by decide +kernel
theorem dX12_stagger_10 : decode cX12_stagger 10 = .ok (.iconst 2, 1) := by decide +kernel
theorem dX12_stagger_11 : decode cX12_stagger 11 = .ok (.bipush 30, 2) := by decide +kernel
theorem dX12_stagger_13 : decode cX12_stagger 13 = .ok (.invokestatic 219, 3) := by decide +kernel
theorem dX12_stagger_16 : decode cX12_stagger 16 = .ok (.ifCond .eq 39, 3) := by decide +kernel
theorem dX12_stagger_19 : decode cX12_stagger 19 = .ok (.iload_n 3, 1) := by decide +kernel
theorem dX12_stagger_20 : decode cX12_stagger 20 = .ok (.iload_n 2, 1) := by decide +kernel
theorem dX12_stagger_21 : decode cX12_stagger 21 = .ok (.iload_n 1, 1) := by decide +kernel
theorem dX12_stagger_22 : decode cX12_stagger 22 = .ok (.iadd, 1) := by decide +kernel
theorem dX12_stagger_23 : decode cX12_stagger 23 = .ok (.iconst 1, 1) := by decide +kernel
theorem dX12_stagger_24 : decode cX12_stagger 24 = .ok (.isub, 1) := by decide +kernel
theorem dX12_stagger_25 : decode cX12_stagger 25 = .ok (.bipush 30, 2) := by decide +kernel
theorem dX12_stagger_27 : decode cX12_stagger 27 = .ok (.invokestatic 219, 3) := by decide +kernel
theorem dX12_stagger_30 : decode cX12_stagger 30 = .ok (.ifCond .eq 25, 3) := by decide +kernel
theorem dX12_stagger_33 : decode cX12_stagger 33 = .ok (.iload 4, 2) := by decide +kernel
theorem dX12_stagger_35 : decode cX12_stagger 35 = .ok (.iconst 1, 1) := by decide +kernel
theorem dX12_stagger_36 : decode cX12_stagger 36 = .ok (.sipush 300, 3) := by decide +kernel
theorem dX12_stagger_39 : decode cX12_stagger 39 = .ok (.invokestatic 219, 3) := by decide +kernel
theorem dX12_stagger_42 : decode cX12_stagger 42 = .ok (.ifCond .eq 13, 3) := by decide +kernel
theorem dX12_stagger_45 : decode cX12_stagger 45 = .ok (.iload 5, 2) := by decide +kernel
theorem dX12_stagger_47 : decode cX12_stagger 47 = .ok (.iconst 0, 1) := by decide +kernel
theorem dX12_stagger_48 : decode cX12_stagger 48 = .ok (.iconst 1, 1) := by decide +kernel
theorem dX12_stagger_49 : decode cX12_stagger 49 = .ok (.invokestatic 219, 3) := by decide +kernel
theorem dX12_stagger_52 : decode cX12_stagger 52 = .ok (.ifCond .ne 5, 3) := by decide +kernel
theorem dX12_stagger_55 : decode cX12_stagger 55 = .ok (.iconst (-1), 1) := by decide +kernel
theorem dX12_stagger_56 : decode cX12_stagger 56 = .ok (.ireturn, 1) := by decide +kernel
theorem dX12_stagger_57 : decode cX12_stagger 57 = .ok (.iconst (-1), 1) := by decide +kernel
theorem dX12_stagger_58 : decode cX12_stagger 58 = .ok (.istore 6, 2) := by decide +kernel
theorem dX12_stagger_60 : decode cX12_stagger 60 = .ok (.iconst 0, 1) := by decide +kernel
theorem dX12_stagger_61 : decode cX12_stagger 61 = .ok (.istore 7, 2) := by decide +kernel
theorem dX12_stagger_63 : decode cX12_stagger 63 = .ok (.iload_n 2, 1) := by decide +kernel
theorem dX12_stagger_64 : decode cX12_stagger 64 = .ok (.istore 8, 2) := by decide +kernel
theorem dX12_stagger_66 : decode cX12_stagger 66 = .ok (.iload 8, 2) := by decide +kernel
theorem dX12_stagger_68 : decode cX12_stagger 68 = .ok (.iload_n 3, 1) := by decide +kernel
theorem dX12_stagger_69 : decode cX12_stagger 69 = .ok (.if_icmp .gt 159, 3) := by decide +kernel
theorem dX12_stagger_72 : decode cX12_stagger 72 = .ok (.iload_n 1, 1) := by decide +kernel
theorem dX12_stagger_73 : decode cX12_stagger 73 = .ok (.iconst 1, 1) := by decide +kernel
theorem dX12_stagger_74 : decode cX12_stagger 74 = .ok (.if_icmp .le 10, 3) := by decide +kernel
theorem dX12_stagger_77 : decode cX12_stagger 77 = .ok (.iload 8, 2) := by decide +kernel
theorem dX12_stagger_79 : decode cX12_stagger 79 = .ok (.iconst 1, 1) := by decide +kernel
theorem dX12_stagger_80 : decode cX12_stagger 80 = .ok (.iadd, 1) := by decide +kernel
theorem dX12_stagger_81 : decode cX12_stagger 81 = .ok (.goto 4, 3) := by decide +kernel
theorem dX12_stagger_84 : decode cX12_stagger 84 = .ok (.iconst 0, 1) := by decide +kernel
theorem dX12_stagger_85 : decode cX12_stagger 85 = .ok (.istore 9, 2) := by decide +kernel
theorem dX12_stagger_87 : decode cX12_stagger 87 = .ok (.iload 9, 2) := by decide +kernel
theorem dX12_stagger_89 : decode cX12_stagger 89 = .ok (.iload_n 1, 1) := by decide +kernel
theorem dX12_stagger_90 : decode cX12_stagger 90 = .ok (.iconst 1, 1) := by decide +kernel
theorem dX12_stagger_91 : decode cX12_stagger 91 = .ok (.if_icmp .le 7, 3) := by decide +kernel
theorem dX12_stagger_94 : decode cX12_stagger 94 = .ok (.iload_n 3, 1) := by decide +kernel
theorem dX12_stagger_95 : decode cX12_stagger 95 = .ok (.goto 4, 3) := by decide +kernel
theorem dX12_stagger_98 : decode cX12_stagger 98 = .ok (.iconst 0, 1) := by decide +kernel
theorem dX12_stagger_99 : decode cX12_stagger 99 = .ok (.if_icmp .gt 123, 3) := by decide +kernel
theorem dX12_stagger_102 : decode cX12_stagger 102 = .ok (.iload_n 1, 1) := by decide +kernel
theorem dX12_stagger_103 : decode cX12_stagger 103 = .ok (.iconst 2, 1) := by decide +kernel
theorem dX12_stagger_104 : decode cX12_stagger 104 = .ok (.if_icmp .le 10, 3) := by decide +kernel
theorem dX12_stagger_107 : decode cX12_stagger 107 = .ok (.iload 9, 2) := by decide +kernel
theorem dX12_stagger_109 : decode cX12_stagger 109 = .ok (.iconst 1, 1) := by decide +kernel
theorem dX12_stagger_110 : decode cX12_stagger 110 = .ok (.iadd, 1) := by decide +kernel
theorem dX12_stagger_111 : decode cX12_stagger 111 = .ok (.goto 4, 3) := by decide +kernel
theorem dX12_stagger_114 : decode cX12_stagger 114 = .ok (.iconst 0, 1) := by decide +kernel
theorem dX12_stagger_115 : decode cX12_stagger 115 = .ok (.istore 10, 2) := by decide +kernel
theorem dX12_stagger_117 : decode cX12_stagger 117 = .ok (.iload 10, 2) := by decide +kernel
theorem dX12_stagger_119 : decode cX12_stagger 119 = .ok (.iload_n 1, 1) := by decide +kernel
theorem dX12_stagger_120 : decode cX12_stagger 120 = .ok (.iconst 2, 1) := by decide +kernel
theorem dX12_stagger_121 : decode cX12_stagger 121 = .ok (.if_icmp .le 7, 3) := by decide +kernel
theorem dX12_stagger_124 : decode cX12_stagger 124 = .ok (.iload_n 3, 1) := by decide +kernel
theorem dX12_stagger_125 : decode cX12_stagger 125 = .ok (.goto 4, 3) := by decide +kernel
theorem dX12_stagger_128 : decode cX12_stagger 128 = .ok (.iconst 0, 1) := by decide +kernel
theorem dX12_stagger_129 : decode cX12_stagger 129 = .ok (.if_icmp .gt 87, 3) := by decide +kernel
theorem dX12_stagger_132 : decode cX12_stagger 132 = .ok (.aload_n 0, 1) := by decide +kernel
theorem dX12_stagger_133 : decode cX12_stagger 133 = .ok (.iload 8, 2) := by decide +kernel
theorem dX12_stagger_135 : decode cX12_stagger 135 = .ok (.iload 9, 2) := by decide +kernel
theorem dX12_stagger_137 : decode cX12_stagger 137 = .ok (.iload 10, 2) := by decide +kernel
theorem dX12_stagger_139 : decode cX12_stagger 139 = .ok (.iload 4, 2) := by decide +kernel
theorem dX12_stagger_141 : decode cX12_stagger 141 = .ok (.invokevirtual 401, 3) := by decide +kernel
theorem dX12_stagger_144 : decode cX12_stagger 144 = .ok (.istore 11, 2) := by decide +kernel
theorem dX12_stagger_146 : decode cX12_stagger 146 = .ok (.iload_n 1, 1) := by decide +kernel
theorem dX12_stagger_147 : decode cX12_stagger 147 = .ok (.iconst 1, 1) := by decide +kernel
theorem dX12_stagger_148 : decode cX12_stagger 148 = .ok (.if_icmp .ne 8, 3) := by decide +kernel
theorem dX12_stagger_151 : decode cX12_stagger 151 = .ok (.iload 8, 2) := by decide +kernel
theorem dX12_stagger_153 : decode cX12_stagger 153 = .ok (.goto 34, 3) := by decide +kernel
theorem dX12_stagger_156 : decode cX12_stagger 156 = .ok (.iload_n 1, 1) := by decide +kernel
theorem dX12_stagger_157 : decode cX12_stagger 157 = .ok (.iconst 2, 1) := by decide +kernel
theorem dX12_stagger_158 : decode cX12_stagger 158 = .ok (.if_icmp .ne 14, 3) := by decide +kernel
theorem dX12_stagger_161 : decode cX12_stagger 161 = .ok (.bipush 100, 2) := by decide +kernel
theorem dX12_stagger_163 : decode cX12_stagger 163 = .ok (.iload 8, 2) := by decide +kernel
theorem dX12_stagger_165 : decode cX12_stagger 165 = .ok (.imul, 1) := by decide +kernel
theorem dX12_stagger_166 : decode cX12_stagger 166 = .ok (.iload 9, 2) := by decide +kernel
theorem dX12_stagger_168 : decode cX12_stagger 168 = .ok (.iadd, 1) := by decide +kernel
theorem dX12_stagger_169 : decode cX12_stagger 169 = .ok (.goto 18, 3) := by decide +kernel
theorem dX12_stagger_172 : decode cX12_stagger 172 = .ok (.sipush 10000, 3) := by decide +kernel
theorem dX12_stagger_175 : decode cX12_stagger 175 = .ok (.iload 8, 2) := by decide +kernel
theorem dX12_stagger_177 : decode cX12_stagger 177 = .ok (.imul, 1) := by decide +kernel
theorem dX12_stagger_178 : decode cX12_stagger 178 = .ok (.bipush 100, 2) := by decide +kernel
theorem dX12_stagger_180 : decode cX12_stagger 180 = .ok (.iload 9, 2) := by decide +kernel
theorem dX12_stagger_182 : decode cX12_stagger 182 = .ok (.imul, 1) := by decide +kernel
theorem dX12_stagger_183 : decode cX12_stagger 183 = .ok (.iadd, 1) := by decide +kernel
theorem dX12_stagger_184 : decode cX12_stagger 184 = .ok (.iload 10, 2) := by decide +kernel
theorem dX12_stagger_186 : decode cX12_stagger 186 = .ok (.iadd, 1) := by decide +kernel
theorem dX12_stagger_187 : decode cX12_stagger 187 = .ok (.istore 12, 2) := by decide +kernel
theorem dX12_stagger_189 : decode cX12_stagger 189 = .ok (.iload 6, 2) := by decide +kernel
theorem dX12_stagger_191 : decode cX12_stagger 191 = .ok (.iconst (-1), 1) := by decide +kernel
theorem dX12_stagger_192 : decode cX12_stagger 192 = .ok (.if_icmp .eq 10, 3) := by decide +kernel
theorem dX12_stagger_195 : decode cX12_stagger 195 = .ok (.iload 11, 2) := by decide +kernel
theorem dX12_stagger_197 : decode cX12_stagger 197 = .ok (.iload 7, 2) := by decide +kernel
theorem dX12_stagger_199 : decode cX12_stagger 199 = .ok (.if_icmp .le 11, 3) := by decide +kernel
theorem dX12_stagger_202 : decode cX12_stagger 202 = .ok (.iload 12, 2) := by decide +kernel
theorem dX12_stagger_204 : decode cX12_stagger 204 = .ok (.istore 6, 2) := by decide +kernel
theorem dX12_stagger_206 : decode cX12_stagger 206 = .ok (.iload 11, 2) := by decide +kernel
theorem dX12_stagger_208 : decode cX12_stagger 208 = .ok (.istore 7, 2) := by decide +kernel
theorem dX12_stagger_210 : decode cX12_stagger 210 = .ok (.iinc 10 1, 3) := by decide +kernel
theorem dX12_stagger_213 : decode cX12_stagger 213 = .ok (.goto (-96), 3) := by decide +kernel
theorem dX12_stagger_216 : decode cX12_stagger 216 = .ok (.iinc 9 1, 3) := by decide +kernel
theorem dX12_stagger_219 : decode cX12_stagger 219 = .ok (.goto (-132), 3) := by decide +kernel
theorem dX12_stagger_222 : decode cX12_stagger 222 = .ok (.iinc 8 1, 3) := by decide +kernel
theorem dX12_stagger_225 : decode cX12_stagger 225 = .ok (.goto (-159), 3) := by decide +kernel
theorem dX12_stagger_228 : decode cX12_stagger 228 = .ok (.iload 5, 2) := by decide +kernel
theorem dX12_stagger_230 : decode cX12_stagger 230 = .ok (.ifCond .ne 8, 3) := by decide +kernel
theorem dX12_stagger_233 : decode cX12_stagger 233 = .ok (.iload 6, 2) := by decide +kernel
theorem dX12_stagger_235 : decode cX12_stagger 235 = .ok (.goto 5, 3) := by decide +kernel
theorem dX12_stagger_238 : decode cX12_stagger 238 = .ok (.iload 7, 2) := by decide +kernel
theorem dX12_stagger_240 : decode cX12_stagger 240 = .ok (.ireturn, 1) := by decide +kernel
theorem dX12_factor_0 : decode cX12_factor 0 = .ok (.aload_n 0, 1) := by decide +kernel
theorem dX12_factor_1 : decode cX12_factor 1 = .ok (.iload_n 1, 1) := by decide +kernel
theorem dX12_factor_2 : decode cX12_factor 2 = .ok (.iload_n 2, 1) := by decide +kernel
theorem dX12_factor_3 : decode cX12_factor 3 = .ok (.iload_n 3, 1) := by decide +kernel
theorem dX12_factor_4 : decode cX12_factor 4 = .ok (.iconst 0, 1) := by decide +kernel
theorem dX12_factor_5 : decode cX12_factor 5 = .ok (.iconst 1, 1) := by decide +kernel
theorem dX12_factor_6 : decode cX12_factor 6 = .ok (.invokevirtual 405, 3) := by decide +kernel
theorem dX12_factor_9 : decode cX12_factor 9 = .ok (.ldc2_w 378, 3) := by decide +kernel
theorem dX12_factor_12 : decode cX12_factor 12 = .ok (.lcmp, 1) := by decide +kernel
theorem dX12_factor_13 : decode cX12_factor 13 = .ok (.ifCond .eq 15, 3) := by decide +kernel
theorem dX12_factor_16 : decode cX12_factor 16 = .ok (.iload 4, 2) := by decide +kernel
theorem dX12_factor_18 : decode cX12_factor 18 = .ok (.iconst 0, 1) := by decide +kernel
theorem dX12_factor_19 : decode cX12_factor 19 = .ok (.ldc_w 409, 3) := by decide +kernel
theorem dX12_factor_22 : decode cX12_factor 22 = .ok (.invokestatic 219, 3) := by decide +kernel
theorem dX12_factor_25 : decode cX12_factor 25 = .ok (.ifCond .ne 5, 3) := by decide +kernel
theorem dX12_factor_28 : decode cX12_factor 28 = .ok (.iconst (-1), 1) := by decide +kernel
theorem dX12_factor_29 : decode cX12_factor 29 = .ok (.ireturn, 1) := by decide +kernel
theorem dX12_factor_30 : decode cX12_factor 30 = .ok (.iconst 0, 1) := by decide +kernel
theorem dX12_factor_31 : decode cX12_factor 31 = .ok (.istore 5, 2) := by decide +kernel
theorem dX12_factor_33 : decode cX12_factor 33 = .ok (.iload 5, 2) := by decide +kernel
theorem dX12_factor_35 : decode cX12_factor 35 = .ok (.bipush 99, 2) := by decide +kernel
theorem dX12_factor_37 : decode cX12_factor 37 = .ok (.if_icmp .gt 29, 3) := by decide +kernel
theorem dX12_factor_40 : decode cX12_factor 40 = .ok (.aload_n 0, 1) := by decide +kernel
theorem dX12_factor_41 : decode cX12_factor 41 = .ok (.iload_n 1, 1) := by decide +kernel
theorem dX12_factor_42 : decode cX12_factor 42 = .ok (.iload_n 2, 1) := by decide +kernel
theorem dX12_factor_43 : decode cX12_factor 43 = .ok (.iload_n 3, 1) := by decide +kernel
theorem dX12_factor_44 : decode cX12_factor 44 = .ok (.iload 5, 2) := by decide +kernel
theorem dX12_factor_46 : decode cX12_factor 46 = .ok (.iconst 1, 1) := by decide +kernel
theorem dX12_factor_47 : decode cX12_factor 47 = .ok (.invokevirtual 405, 3) := by decide +kernel
theorem dX12_factor_50 : decode cX12_factor 50 = .ok (.iload 4, 2) := by decide +kernel
theorem dX12_factor_52 : decode cX12_factor 52 = .ok (.i2l, 1) := by decide +kernel
theorem dX12_factor_53 : decode cX12_factor 53 = .ok (.lcmp, 1) := by decide +kernel
theorem dX12_factor_54 : decode cX12_factor 54 = .ok (.ifCond .gt 6, 3) := by decide +kernel
theorem dX12_factor_57 : decode cX12_factor 57 = .ok (.iload 5, 2) := by decide +kernel
theorem dX12_factor_59 : decode cX12_factor 59 = .ok (.ireturn, 1) := by decide +kernel
theorem dX12_factor_60 : decode cX12_factor 60 = .ok (.iinc 5 1, 3) := by decide +kernel
theorem dX12_factor_63 : decode cX12_factor 63 = .ok (.goto (-30), 3) := by decide +kernel
theorem dX12_factor_66 : decode cX12_factor 66 = .ok (.iconst (-1), 1) := by decide +kernel
theorem dX12_factor_67 : decode cX12_factor 67 = .ok (.ireturn, 1) := by decide +kernel
theorem dX12_heaps_0 : decode cX12_heaps 0 = .ok (.iload_n 1, 1) := by decide +kernel
theorem dX12_heaps_1 : decode cX12_heaps 1 = .ok (.iconst 0, 1) := by decide +kernel
theorem dX12_heaps_2 : decode cX12_heaps 2 = .ok (.iconst 2, 1) := by decide +kernel
theorem dX12_heaps_3 : decode cX12_heaps 3 = .ok (.invokestatic 219, 3) := by decide +kernel
theorem dX12_heaps_6 : decode cX12_heaps 6 = .ok (.ifCond .ne 7, 3) := by decide +kernel
theorem dX12_heaps_9 : decode cX12_heaps 9 = .ok (.ldc_w 268, 3) := by decide +kernel
theorem dX12_heaps_12 : decode cX12_heaps 12 = .ok (.ireturn, 1) := by decide +kernel
theorem dX12_heaps_13 : decode cX12_heaps 13 = .ok (.iconst 0, 1) := by decide +kernel
theorem dX12_heaps_14 : decode cX12_heaps 14 = .ok (.istore_n 2, 1) := by decide +kernel
theorem dX12_heaps_15 : decode cX12_heaps 15 = .ok (.iconst 0, 1) := by decide +kernel
theorem dX12_heaps_16 : decode cX12_heaps 16 = .ok (.istore_n 3, 1) := by decide +kernel
theorem dX12_heaps_17 : decode cX12_heaps 17 = .ok (.iconst (-1), 1) := by decide +kernel
theorem dX12_heaps_18 : decode cX12_heaps 18 = .ok (.istore 4, 2) := by decide +kernel
theorem dX12_heaps_20 : decode cX12_heaps 20 = .ok (.iconst 0, 1) := by decide +kernel
theorem dX12_heaps_21 : decode cX12_heaps 21 = .ok (.istore 5, 2) := by decide +kernel
theorem dX12_heaps_23 : decode cX12_heaps 23 = .ok (.iconst 0, 1) := by decide +kernel
theorem dX12_heaps_24 : decode cX12_heaps 24 = .ok (.istore 6, 2) := by decide +kernel
theorem dX12_heaps_26 : decode cX12_heaps 26 = .ok (.iload 6, 2) := by decide +kernel
theorem dX12_heaps_28 : decode cX12_heaps 28 = .ok (.aload_n 0, 1) := by decide +kernel
theorem dX12_heaps_29 : decode cX12_heaps 29 = .ok (.getfield 77, 3) := by decide +kernel
theorem dX12_heaps_32 : decode cX12_heaps 32 = .ok (.iconst 0, 1) := by decide +kernel
theorem dX12_heaps_33 : decode cX12_heaps 33 = .ok (.iaload, 1) := by decide +kernel
theorem dX12_heaps_34 : decode cX12_heaps 34 = .ok (.if_icmp .ge 61, 3) := by decide +kernel
theorem dX12_heaps_37 : decode cX12_heaps 37 = .ok (.aload_n 0, 1) := by decide +kernel
theorem dX12_heaps_38 : decode cX12_heaps 38 = .ok (.iload 6, 2) := by decide +kernel
theorem dX12_heaps_40 : decode cX12_heaps 40 = .ok (.invokevirtual 368, 3) := by decide +kernel
theorem dX12_heaps_43 : decode cX12_heaps 43 = .ok (.iconst 1, 1) := by decide +kernel
theorem dX12_heaps_44 : decode cX12_heaps 44 = .ok (.if_icmp .ne 10, 3) := by decide +kernel
theorem dX12_heaps_47 : decode cX12_heaps 47 = .ok (.iload 5, 2) := by decide +kernel
theorem dX12_heaps_49 : decode cX12_heaps 49 = .ok (.iconst 1, 1) := by decide +kernel
theorem dX12_heaps_50 : decode cX12_heaps 50 = .ok (.iadd, 1) := by decide +kernel
theorem dX12_heaps_51 : decode cX12_heaps 51 = .ok (.goto 4, 3) := by decide +kernel
theorem dX12_heaps_54 : decode cX12_heaps 54 = .ok (.iconst 0, 1) := by decide +kernel
theorem dX12_heaps_55 : decode cX12_heaps 55 = .ok (.istore 5, 2) := by decide +kernel
theorem dX12_heaps_57 : decode cX12_heaps 57 = .ok (.iload_n 2, 1) := by decide +kernel
theorem dX12_heaps_58 : decode cX12_heaps 58 = .ok (.iload 5, 2) := by decide +kernel
theorem dX12_heaps_60 : decode cX12_heaps 60 = .ok (.iconst 1, 1) := by decide +kernel
theorem dX12_heaps_61 : decode cX12_heaps 61 = .ok (.if_icmp .ne 7, 3) := by decide +kernel
theorem dX12_heaps_64 : decode cX12_heaps 64 = .ok (.iconst 1, 1) := by decide +kernel
theorem dX12_heaps_65 : decode cX12_heaps 65 = .ok (.goto 4, 3) := by decide +kernel
theorem dX12_heaps_68 : decode cX12_heaps 68 = .ok (.iconst 0, 1) := by decide +kernel
theorem dX12_heaps_69 : decode cX12_heaps 69 = .ok (.iadd, 1) := by decide +kernel
theorem dX12_heaps_70 : decode cX12_heaps 70 = .ok (.istore_n 2, 1) := by decide +kernel
theorem dX12_heaps_71 : decode cX12_heaps 71 = .ok (.iload 5, 2) := by decide +kernel
theorem dX12_heaps_73 : decode cX12_heaps 73 = .ok (.iload_n 3, 1) := by decide +kernel
theorem dX12_heaps_74 : decode cX12_heaps 74 = .ok (.if_icmp .le 15, 3) := by decide +kernel
theorem dX12_heaps_77 : decode cX12_heaps 77 = .ok (.iload 5, 2) := by decide +kernel
theorem dX12_heaps_79 : decode cX12_heaps 79 = .ok (.istore_n 3, 1) := by decide +kernel
theorem dX12_heaps_80 : decode cX12_heaps 80 = .ok (.iload 6, 2) := by decide +kernel
theorem dX12_heaps_82 : decode cX12_heaps 82 = .ok (.iload 5, 2) := by decide +kernel
theorem dX12_heaps_84 : decode cX12_heaps 84 = .ok (.isub, 1) := by decide +kernel
theorem dX12_heaps_85 : decode cX12_heaps 85 = .ok (.iconst 1, 1) := by decide +kernel
theorem dX12_heaps_86 : decode cX12_heaps 86 = .ok (.iadd, 1) := by decide +kernel
theorem dX12_heaps_87 : decode cX12_heaps 87 = .ok (.istore 4, 2) := by decide +kernel
theorem dX12_heaps_89 : decode cX12_heaps 89 = .ok (.iinc 6 1, 3) := by decide +kernel
theorem dX12_heaps_92 : decode cX12_heaps 92 = .ok (.goto (-66), 3) := by decide +kernel
theorem dX12_heaps_95 : decode cX12_heaps 95 = .ok (.iload_n 1, 1) := by decide +kernel
theorem dX12_heaps_96 : decode cX12_heaps 96 = .ok (.ifCond .ne 7, 3) := by decide +kernel
theorem dX12_heaps_99 : decode cX12_heaps 99 = .ok (.iload_n 2, 1) := by decide +kernel
theorem dX12_heaps_100 : decode cX12_heaps 100 = .ok (.goto 14, 3) := by decide +kernel
theorem dX12_heaps_103 : decode cX12_heaps 103 = .ok (.iload_n 1, 1) := by decide +kernel
theorem dX12_heaps_104 : decode cX12_heaps 104 = .ok (.iconst 1, 1) := by decide +kernel
theorem dX12_heaps_105 : decode cX12_heaps 105 = .ok (.if_icmp .ne 7, 3) := by decide +kernel
theorem dX12_heaps_108 : decode cX12_heaps 108 = .ok (.iload_n 3, 1) := by decide +kernel
theorem dX12_heaps_109 : decode cX12_heaps 109 = .ok (.goto 5, 3) := by decide +kernel
theorem dX12_heaps_112 : decode cX12_heaps 112 = .ok (.iload 4, 2) := by decide +kernel
theorem dX12_heaps_114 : decode cX12_heaps 114 = .ok (.ireturn, 1) := by decide +kernel
theorem dX12_image_0 : decode cX12_image 0 = .ok (.aload_n 0, 1) := by decide +kernel
theorem dX12_image_1 : decode cX12_image 1 = .ok (.getfield 77, 3) := by decide +kernel
theorem dX12_image_4 : decode cX12_image 4 = .ok (.iconst 0, 1) := by decide +kernel
theorem dX12_image_5 : decode cX12_image 5 = .ok (.aload_n 0, 1) := by decide +kernel
theorem dX12_image_6 : decode cX12_image 6 = .ok (.getfield 86, 3) := by decide +kernel
theorem dX12_image_9 : decode cX12_image 9 = .ok (.iconst 0, 1) := by decide +kernel
theorem dX12_image_10 : decode cX12_image 10 = .ok (.invokestatic 342, 3) := by decide +kernel
theorem dX12_image_13 : decode cX12_image 13 = .ok (.aload_n 0, 1) := by decide +kernel
theorem dX12_image_14 : decode cX12_image 14 = .ok (.iconst 1, 1) := by decide +kernel
theorem dX12_image_15 : decode cX12_image 15 = .ok (.putfield 410, 3) := by decide +kernel
theorem dX12_image_18 : decode cX12_image 18 = .ok (.aload_n 0, 1) := by decide +kernel
theorem dX12_image_19 : decode cX12_image 19 = .ok (.getfield 77, 3) := by decide +kernel
theorem dX12_image_22 : decode cX12_image 22 = .ok (.iconst 0, 1) := by decide +kernel
theorem dX12_image_23 : decode cX12_image 23 = .ok (.iaload, 1) := by decide +kernel
theorem dX12_image_24 : decode cX12_image 24 = .ok (.ireturn, 1) := by decide +kernel
theorem dX12_back_0 : decode cX12_back 0 = .ok (.aload_n 0, 1) := by decide +kernel
theorem dX12_back_1 : decode cX12_back 1 = .ok (.getfield 410, 3) := by decide +kernel
theorem dX12_back_4 : decode cX12_back 4 = .ok (.ifCond .ne 5, 3) := by decide +kernel
theorem dX12_back_7 : decode cX12_back 7 = .ok (.iconst (-1), 1) := by decide +kernel
theorem dX12_back_8 : decode cX12_back 8 = .ok (.ireturn, 1) := by decide +kernel
theorem dX12_back_9 : decode cX12_back 9 = .ok (.aload_n 0, 1) := by decide +kernel
theorem dX12_back_10 : decode cX12_back 10 = .ok (.invokevirtual 355, 3) := by decide +kernel
theorem dX12_back_13 : decode cX12_back 13 = .ok (.aload_n 0, 1) := by decide +kernel
theorem dX12_back_14 : decode cX12_back 14 = .ok (.getfield 86, 3) := by decide +kernel
theorem dX12_back_17 : decode cX12_back 17 = .ok (.iconst 0, 1) := by decide +kernel
theorem dX12_back_18 : decode cX12_back 18 = .ok (.aload_n 0, 1) := by decide +kernel
theorem dX12_back_19 : decode cX12_back 19 = .ok (.getfield 77, 3) := by decide +kernel
theorem dX12_back_22 : decode cX12_back 22 = .ok (.iconst 0, 1) := by decide +kernel
theorem dX12_back_23 : decode cX12_back 23 = .ok (.invokestatic 342, 3) := by decide +kernel
theorem dX12_back_26 : decode cX12_back 26 = .ok (.aload_n 0, 1) := by decide +kernel
theorem dX12_back_27 : decode cX12_back 27 = .ok (.getfield 77, 3) := by decide +kernel
theorem dX12_back_30 : decode cX12_back 30 = .ok (.iconst 0, 1) := by decide +kernel
theorem dX12_back_31 : decode cX12_back 31 = .ok (.iaload, 1) := by decide +kernel
theorem dX12_back_32 : decode cX12_back 32 = .ok (.ireturn, 1) := by decide +kernel
theorem dX12_count_0 : decode cX12_count 0 = .ok (.iload_n 1, 1) := by decide +kernel
theorem dX12_count_1 : decode cX12_count 1 = .ok (.tableswitch 89 0 7 #[47, 52, 57, 62, 67, 74, 79, 84], 47) := by decide +kernel
theorem dX12_count_48 : decode cX12_count 48 = .ok (.aload_n 0, 1) := by decide +kernel
theorem dX12_count_49 : decode cX12_count 49 = .ok (.getfield 235, 3) := by decide +kernel
theorem dX12_count_52 : decode cX12_count 52 = .ok (.ireturn, 1) := by decide +kernel
theorem dX12_count_53 : decode cX12_count 53 = .ok (.aload_n 0, 1) := by decide +kernel
theorem dX12_count_54 : decode cX12_count 54 = .ok (.getfield 238, 3) := by decide +kernel
theorem dX12_count_57 : decode cX12_count 57 = .ok (.ireturn, 1) := by decide +kernel
theorem dX12_count_58 : decode cX12_count 58 = .ok (.aload_n 0, 1) := by decide +kernel
theorem dX12_count_59 : decode cX12_count 59 = .ok (.getfield 241, 3) := by decide +kernel
theorem dX12_count_62 : decode cX12_count 62 = .ok (.ireturn, 1) := by decide +kernel
theorem dX12_count_63 : decode cX12_count 63 = .ok (.aload_n 0, 1) := by decide +kernel
theorem dX12_count_64 : decode cX12_count 64 = .ok (.getfield 108, 3) := by decide +kernel
theorem dX12_count_67 : decode cX12_count 67 = .ok (.ireturn, 1) := by decide +kernel
theorem dX12_count_68 : decode cX12_count 68 = .ok (.aload_n 0, 1) := by decide +kernel
theorem dX12_count_69 : decode cX12_count 69 = .ok (.getfield 77, 3) := by decide +kernel
theorem dX12_count_72 : decode cX12_count 72 = .ok (.iconst 0, 1) := by decide +kernel
theorem dX12_count_73 : decode cX12_count 73 = .ok (.iaload, 1) := by decide +kernel
theorem dX12_count_74 : decode cX12_count 74 = .ok (.ireturn, 1) := by decide +kernel
theorem dX12_count_75 : decode cX12_count 75 = .ok (.aload_n 0, 1) := by decide +kernel
theorem dX12_count_76 : decode cX12_count 76 = .ok (.getfield 384, 3) := by decide +kernel
theorem dX12_count_79 : decode cX12_count 79 = .ok (.ireturn, 1) := by decide +kernel
theorem dX12_count_80 : decode cX12_count 80 = .ok (.aload_n 0, 1) := by decide +kernel
theorem dX12_count_81 : decode cX12_count 81 = .ok (.getfield 339, 3) := by decide +kernel
theorem dX12_count_84 : decode cX12_count 84 = .ok (.ireturn, 1) := by decide +kernel
theorem dX12_count_85 : decode cX12_count 85 = .ok (.aload_n 0, 1) := by decide +kernel
theorem dX12_count_86 : decode cX12_count 86 = .ok (.getfield 349, 3) := by decide +kernel
theorem dX12_count_89 : decode cX12_count 89 = .ok (.ireturn, 1) := by decide +kernel
theorem dX12_count_90 : decode cX12_count 90 = .ok (.ldc_w 268, 3) := by decide +kernel
theorem dX12_count_93 : decode cX12_count 93 = .ok (.ireturn, 1) := by decide +kernel
theorem dJ6_bitCount_0f7a4_0 : decode cJ6_bitCount_0f7a4 0 = .ok (.iload_n 0, 1) := by decide +kernel
theorem dJ6_bitCount_0f7a4_1 : decode cJ6_bitCount_0f7a4 1 = .ok (.iload_n 0, 1) := by decide +kernel
theorem dJ6_bitCount_0f7a4_2 : decode cJ6_bitCount_0f7a4 2 = .ok (.iconst 1, 1) := by decide +kernel
theorem dJ6_bitCount_0f7a4_3 : decode cJ6_bitCount_0f7a4 3 = .ok (.iushr, 1) := by decide +kernel
theorem dJ6_bitCount_0f7a4_4 : decode cJ6_bitCount_0f7a4 4 = .ok (.ldc_w 265, 3) := by decide +kernel
theorem dJ6_bitCount_0f7a4_7 : decode cJ6_bitCount_0f7a4 7 = .ok (.iand, 1) := by decide +kernel
theorem dJ6_bitCount_0f7a4_8 : decode cJ6_bitCount_0f7a4 8 = .ok (.isub, 1) := by decide +kernel
theorem dJ6_bitCount_0f7a4_9 : decode cJ6_bitCount_0f7a4 9 = .ok (.istore_n 0, 1) := by decide +kernel
theorem dJ6_bitCount_0f7a4_10 : decode cJ6_bitCount_0f7a4 10 = .ok (.iload_n 0, 1) := by decide +kernel
theorem dJ6_bitCount_0f7a4_11 : decode cJ6_bitCount_0f7a4 11 = .ok (.ldc_w 266, 3) := by decide +kernel
theorem dJ6_bitCount_0f7a4_14 : decode cJ6_bitCount_0f7a4 14 = .ok (.iand, 1) := by decide +kernel
theorem dJ6_bitCount_0f7a4_15 : decode cJ6_bitCount_0f7a4 15 = .ok (.iload_n 0, 1) := by decide +kernel
theorem dJ6_bitCount_0f7a4_16 : decode cJ6_bitCount_0f7a4 16 = .ok (.iconst 2, 1) := by decide +kernel
theorem dJ6_bitCount_0f7a4_17 : decode cJ6_bitCount_0f7a4 17 = .ok (.iushr, 1) := by decide +kernel
theorem dJ6_bitCount_0f7a4_18 : decode cJ6_bitCount_0f7a4 18 = .ok (.ldc_w 266, 3) := by decide +kernel
theorem dJ6_bitCount_0f7a4_21 : decode cJ6_bitCount_0f7a4 21 = .ok (.iand, 1) := by decide +kernel
theorem dJ6_bitCount_0f7a4_22 : decode cJ6_bitCount_0f7a4 22 = .ok (.iadd, 1) := by decide +kernel
theorem dJ6_bitCount_0f7a4_23 : decode cJ6_bitCount_0f7a4 23 = .ok (.istore_n 0, 1) := by decide +kernel
theorem dJ6_bitCount_0f7a4_24 : decode cJ6_bitCount_0f7a4 24 = .ok (.iload_n 0, 1) := by decide +kernel
theorem dJ6_bitCount_0f7a4_25 : decode cJ6_bitCount_0f7a4 25 = .ok (.iload_n 0, 1) := by decide +kernel
theorem dJ6_bitCount_0f7a4_26 : decode cJ6_bitCount_0f7a4 26 = .ok (.iconst 4, 1) := by decide +kernel
theorem dJ6_bitCount_0f7a4_27 : decode cJ6_bitCount_0f7a4 27 = .ok (.iushr, 1) := by decide +kernel
theorem dJ6_bitCount_0f7a4_28 : decode cJ6_bitCount_0f7a4 28 = .ok (.iadd, 1) := by decide +kernel
theorem dJ6_bitCount_0f7a4_29 : decode cJ6_bitCount_0f7a4 29 = .ok (.ldc_w 267, 3) := by decide +kernel
theorem dJ6_bitCount_0f7a4_32 : decode cJ6_bitCount_0f7a4 32 = .ok (.iand, 1) := by decide +kernel
theorem dJ6_bitCount_0f7a4_33 : decode cJ6_bitCount_0f7a4 33 = .ok (.istore_n 0, 1) := by decide +kernel
theorem dJ6_bitCount_0f7a4_34 : decode cJ6_bitCount_0f7a4 34 = .ok (.iload_n 0, 1) := by decide +kernel
theorem dJ6_bitCount_0f7a4_35 : decode cJ6_bitCount_0f7a4 35 = .ok (.iload_n 0, 1) := by decide +kernel
theorem dJ6_bitCount_0f7a4_36 : decode cJ6_bitCount_0f7a4 36 = .ok (.bipush 8, 2) := by decide +kernel
theorem dJ6_bitCount_0f7a4_38 : decode cJ6_bitCount_0f7a4 38 = .ok (.iushr, 1) := by decide +kernel
theorem dJ6_bitCount_0f7a4_39 : decode cJ6_bitCount_0f7a4 39 = .ok (.iadd, 1) := by decide +kernel
theorem dJ6_bitCount_0f7a4_40 : decode cJ6_bitCount_0f7a4 40 = .ok (.istore_n 0, 1) := by decide +kernel
theorem dJ6_bitCount_0f7a4_41 : decode cJ6_bitCount_0f7a4 41 = .ok (.iload_n 0, 1) := by decide +kernel
theorem dJ6_bitCount_0f7a4_42 : decode cJ6_bitCount_0f7a4 42 = .ok (.iload_n 0, 1) := by decide +kernel
theorem dJ6_bitCount_0f7a4_43 : decode cJ6_bitCount_0f7a4 43 = .ok (.bipush 16, 2) := by decide +kernel
theorem dJ6_bitCount_0f7a4_45 : decode cJ6_bitCount_0f7a4 45 = .ok (.iushr, 1) := by decide +kernel
theorem dJ6_bitCount_0f7a4_46 : decode cJ6_bitCount_0f7a4 46 = .ok (.iadd, 1) := by decide +kernel
theorem dJ6_bitCount_0f7a4_47 : decode cJ6_bitCount_0f7a4 47 = .ok (.istore_n 0, 1) := by decide +kernel
theorem dJ6_bitCount_0f7a4_48 : decode cJ6_bitCount_0f7a4 48 = .ok (.iload_n 0, 1) := by decide +kernel
theorem dJ6_bitCount_0f7a4_49 : decode cJ6_bitCount_0f7a4 49 = .ok (.bipush 63, 2) := by decide +kernel
theorem dJ6_bitCount_0f7a4_51 : decode cJ6_bitCount_0f7a4 51 = .ok (.iand, 1) := by decide +kernel
theorem dJ6_bitCount_0f7a4_52 : decode cJ6_bitCount_0f7a4 52 = .ok (.ireturn, 1) := by decide +kernel
theorem dJ13_bitCount_95d88_0 : decode cJ13_bitCount_95d88 0 = .ok (.lload_n 0, 1) := by decide +kernel
theorem dJ13_bitCount_95d88_1 : decode cJ13_bitCount_95d88 1 = .ok (.lload_n 0, 1) := by decide +kernel
theorem dJ13_bitCount_95d88_2 : decode cJ13_bitCount_95d88 2 = .ok (.iconst 1, 1) := by decide +kernel
theorem dJ13_bitCount_95d88_3 : decode cJ13_bitCount_95d88 3 = .ok (.lushr, 1) := by decide +kernel
theorem dJ13_bitCount_95d88_4 : decode cJ13_bitCount_95d88 4 = .ok (.ldc2_w 314, 3) := by decide +kernel
theorem dJ13_bitCount_95d88_7 : decode cJ13_bitCount_95d88 7 = .ok (.land, 1) := by decide +kernel
theorem dJ13_bitCount_95d88_8 : decode cJ13_bitCount_95d88 8 = .ok (.lsub, 1) := by decide +kernel
theorem dJ13_bitCount_95d88_9 : decode cJ13_bitCount_95d88 9 = .ok (.lstore_n 0, 1) := by decide +kernel
theorem dJ13_bitCount_95d88_10 : decode cJ13_bitCount_95d88 10 = .ok (.lload_n 0, 1) := by decide +kernel
theorem dJ13_bitCount_95d88_11 : decode cJ13_bitCount_95d88 11 = .ok (.ldc2_w 316, 3) := by decide +kernel
theorem dJ13_bitCount_95d88_14 : decode cJ13_bitCount_95d88 14 = .ok (.land, 1) := by decide +kernel
theorem dJ13_bitCount_95d88_15 : decode cJ13_bitCount_95d88 15 = .ok (.lload_n 0, 1) := by decide +kernel
theorem dJ13_bitCount_95d88_16 : decode cJ13_bitCount_95d88 16 = .ok (.iconst 2, 1) := by decide +kernel
theorem dJ13_bitCount_95d88_17 : decode cJ13_bitCount_95d88 17 = .ok (.lushr, 1) := by decide +kernel
theorem dJ13_bitCount_95d88_18 : decode cJ13_bitCount_95d88 18 = .ok (.ldc2_w 316, 3) := by decide +kernel
theorem dJ13_bitCount_95d88_21 : decode cJ13_bitCount_95d88 21 = .ok (.land, 1) := by decide +kernel
theorem dJ13_bitCount_95d88_22 : decode cJ13_bitCount_95d88 22 = .ok (.ladd, 1) := by decide +kernel
theorem dJ13_bitCount_95d88_23 : decode cJ13_bitCount_95d88 23 = .ok (.lstore_n 0, 1) := by decide +kernel
theorem dJ13_bitCount_95d88_24 : decode cJ13_bitCount_95d88 24 = .ok (.lload_n 0, 1) := by decide +kernel
theorem dJ13_bitCount_95d88_25 : decode cJ13_bitCount_95d88 25 = .ok (.lload_n 0, 1) := by decide +kernel
theorem dJ13_bitCount_95d88_26 : decode cJ13_bitCount_95d88 26 = .ok (.iconst 4, 1) := by decide +kernel
theorem dJ13_bitCount_95d88_27 : decode cJ13_bitCount_95d88 27 = .ok (.lushr, 1) := by decide +kernel
theorem dJ13_bitCount_95d88_28 : decode cJ13_bitCount_95d88 28 = .ok (.ladd, 1) := by decide +kernel
theorem dJ13_bitCount_95d88_29 : decode cJ13_bitCount_95d88 29 = .ok (.ldc2_w 318, 3) := by decide +kernel
theorem dJ13_bitCount_95d88_32 : decode cJ13_bitCount_95d88 32 = .ok (.land, 1) := by decide +kernel
theorem dJ13_bitCount_95d88_33 : decode cJ13_bitCount_95d88 33 = .ok (.lstore_n 0, 1) := by decide +kernel
theorem dJ13_bitCount_95d88_34 : decode cJ13_bitCount_95d88 34 = .ok (.lload_n 0, 1) := by decide +kernel
theorem dJ13_bitCount_95d88_35 : decode cJ13_bitCount_95d88 35 = .ok (.lload_n 0, 1) := by decide +kernel
theorem dJ13_bitCount_95d88_36 : decode cJ13_bitCount_95d88 36 = .ok (.bipush 8, 2) := by decide +kernel
theorem dJ13_bitCount_95d88_38 : decode cJ13_bitCount_95d88 38 = .ok (.lushr, 1) := by decide +kernel
theorem dJ13_bitCount_95d88_39 : decode cJ13_bitCount_95d88 39 = .ok (.ladd, 1) := by decide +kernel
theorem dJ13_bitCount_95d88_40 : decode cJ13_bitCount_95d88 40 = .ok (.lstore_n 0, 1) := by decide +kernel
theorem dJ13_bitCount_95d88_41 : decode cJ13_bitCount_95d88 41 = .ok (.lload_n 0, 1) := by decide +kernel
theorem dJ13_bitCount_95d88_42 : decode cJ13_bitCount_95d88 42 = .ok (.lload_n 0, 1) := by decide +kernel
theorem dJ13_bitCount_95d88_43 : decode cJ13_bitCount_95d88 43 = .ok (.bipush 16, 2) := by decide +kernel
theorem dJ13_bitCount_95d88_45 : decode cJ13_bitCount_95d88 45 = .ok (.lushr, 1) := by decide +kernel
theorem dJ13_bitCount_95d88_46 : decode cJ13_bitCount_95d88 46 = .ok (.ladd, 1) := by decide +kernel
theorem dJ13_bitCount_95d88_47 : decode cJ13_bitCount_95d88 47 = .ok (.lstore_n 0, 1) := by decide +kernel
theorem dJ13_bitCount_95d88_48 : decode cJ13_bitCount_95d88 48 = .ok (.lload_n 0, 1) := by decide +kernel
theorem dJ13_bitCount_95d88_49 : decode cJ13_bitCount_95d88 49 = .ok (.lload_n 0, 1) := by decide +kernel
theorem dJ13_bitCount_95d88_50 : decode cJ13_bitCount_95d88 50 = .ok (.bipush 32, 2) := by decide +kernel
theorem dJ13_bitCount_95d88_52 : decode cJ13_bitCount_95d88 52 = .ok (.lushr, 1) := by decide +kernel
theorem dJ13_bitCount_95d88_53 : decode cJ13_bitCount_95d88 53 = .ok (.ladd, 1) := by decide +kernel
theorem dJ13_bitCount_95d88_54 : decode cJ13_bitCount_95d88 54 = .ok (.lstore_n 0, 1) := by decide +kernel
theorem dJ13_bitCount_95d88_55 : decode cJ13_bitCount_95d88 55 = .ok (.lload_n 0, 1) := by decide +kernel
theorem dJ13_bitCount_95d88_56 : decode cJ13_bitCount_95d88 56 = .ok (.l2i, 1) := by decide +kernel
theorem dJ13_bitCount_95d88_57 : decode cJ13_bitCount_95d88 57 = .ok (.bipush 127, 2) := by decide +kernel
theorem dJ13_bitCount_95d88_59 : decode cJ13_bitCount_95d88 59 = .ok (.iand, 1) := by decide +kernel
theorem dJ13_bitCount_95d88_60 : decode cJ13_bitCount_95d88 60 = .ok (.ireturn, 1) := by decide +kernel
theorem dJ9_abs_0f7a4_0 : decode cJ9_abs_0f7a4 0 = .ok (.iload_n 0, 1) := by decide +kernel
theorem dJ9_abs_0f7a4_1 : decode cJ9_abs_0f7a4 1 = .ok (.ifCond .ge 8, 3) := by decide +kernel
theorem dJ9_abs_0f7a4_4 : decode cJ9_abs_0f7a4 4 = .ok (.iload_n 0, 1) := by decide +kernel
theorem dJ9_abs_0f7a4_5 : decode cJ9_abs_0f7a4 5 = .ok (.ineg, 1) := by decide +kernel
theorem dJ9_abs_0f7a4_6 : decode cJ9_abs_0f7a4 6 = .ok (.goto 4, 3) := by decide +kernel
theorem dJ9_abs_0f7a4_9 : decode cJ9_abs_0f7a4 9 = .ok (.iload_n 0, 1) := by decide +kernel
theorem dJ9_abs_0f7a4_10 : decode cJ9_abs_0f7a4 10 = .ok (.ireturn, 1) := by decide +kernel
theorem dJ9_max_7cf53_0 : decode cJ9_max_7cf53 0 = .ok (.iload_n 0, 1) := by decide +kernel
theorem dJ9_max_7cf53_1 : decode cJ9_max_7cf53 1 = .ok (.iload_n 1, 1) := by decide +kernel
theorem dJ9_max_7cf53_2 : decode cJ9_max_7cf53 2 = .ok (.if_icmp .lt 7, 3) := by decide +kernel
theorem dJ9_max_7cf53_5 : decode cJ9_max_7cf53 5 = .ok (.iload_n 0, 1) := by decide +kernel
theorem dJ9_max_7cf53_6 : decode cJ9_max_7cf53 6 = .ok (.goto 4, 3) := by decide +kernel
theorem dJ9_max_7cf53_9 : decode cJ9_max_7cf53 9 = .ok (.iload_n 1, 1) := by decide +kernel
theorem dJ9_max_7cf53_10 : decode cJ9_max_7cf53 10 = .ok (.ireturn, 1) := by decide +kernel
theorem dJ9_max_f86c9_0 : decode cJ9_max_f86c9 0 = .ok (.lload_n 0, 1) := by decide +kernel
theorem dJ9_max_f86c9_1 : decode cJ9_max_f86c9 1 = .ok (.lload_n 2, 1) := by decide +kernel
theorem dJ9_max_f86c9_2 : decode cJ9_max_f86c9 2 = .ok (.lcmp, 1) := by decide +kernel
theorem dJ9_max_f86c9_3 : decode cJ9_max_f86c9 3 = .ok (.ifCond .lt 7, 3) := by decide +kernel
theorem dJ9_max_f86c9_6 : decode cJ9_max_f86c9 6 = .ok (.lload_n 0, 1) := by decide +kernel
theorem dJ9_max_f86c9_7 : decode cJ9_max_f86c9 7 = .ok (.goto 4, 3) := by decide +kernel
theorem dJ9_max_f86c9_10 : decode cJ9_max_f86c9 10 = .ok (.lload_n 2, 1) := by decide +kernel
theorem dJ9_max_f86c9_11 : decode cJ9_max_f86c9 11 = .ok (.lreturn, 1) := by decide +kernel
theorem dJ9_min_7cf53_0 : decode cJ9_min_7cf53 0 = .ok (.iload_n 0, 1) := by decide +kernel
theorem dJ9_min_7cf53_1 : decode cJ9_min_7cf53 1 = .ok (.iload_n 1, 1) := by decide +kernel
theorem dJ9_min_7cf53_2 : decode cJ9_min_7cf53 2 = .ok (.if_icmp .gt 7, 3) := by decide +kernel
theorem dJ9_min_7cf53_5 : decode cJ9_min_7cf53 5 = .ok (.iload_n 0, 1) := by decide +kernel
theorem dJ9_min_7cf53_6 : decode cJ9_min_7cf53 6 = .ok (.goto 4, 3) := by decide +kernel
theorem dJ9_min_7cf53_9 : decode cJ9_min_7cf53 9 = .ok (.iload_n 1, 1) := by decide +kernel
theorem dJ9_min_7cf53_10 : decode cJ9_min_7cf53 10 = .ok (.ireturn, 1) := by decide +kernel
theorem dJ9_min_f86c9_0 : decode cJ9_min_f86c9 0 = .ok (.lload_n 0, 1) := by decide +kernel
theorem dJ9_min_f86c9_1 : decode cJ9_min_f86c9 1 = .ok (.lload_n 2, 1) := by decide +kernel
theorem dJ9_min_f86c9_2 : decode cJ9_min_f86c9 2 = .ok (.lcmp, 1) := by decide +kernel
theorem dJ9_min_f86c9_3 : decode cJ9_min_f86c9 3 = .ok (.ifCond .gt 7, 3) := by decide +kernel
theorem dJ9_min_f86c9_6 : decode cJ9_min_f86c9 6 = .ok (.lload_n 0, 1) := by decide +kernel
theorem dJ9_min_f86c9_7 : decode cJ9_min_f86c9 7 = .ok (.goto 4, 3) := by decide +kernel
theorem dJ9_min_f86c9_10 : decode cJ9_min_f86c9 10 = .ok (.lload_n 2, 1) := by decide +kernel
theorem dJ9_min_f86c9_11 : decode cJ9_min_f86c9 11 = .ok (.lreturn, 1) := by decide +kernel
theorem dJ7_fill_d0a16_0 : decode cJ7_fill_d0a16 0 = .ok (.iconst 0, 1) := by decide +kernel
theorem dJ7_fill_d0a16_1 : decode cJ7_fill_d0a16 1 = .ok (.istore_n 3, 1) := by decide +kernel
theorem dJ7_fill_d0a16_2 : decode cJ7_fill_d0a16 2 = .ok (.aload_n 0, 1) := by decide +kernel
theorem dJ7_fill_d0a16_3 : decode cJ7_fill_d0a16 3 = .ok (.arraylength, 1) := by decide +kernel
theorem dJ7_fill_d0a16_4 : decode cJ7_fill_d0a16 4 = .ok (.istore 4, 2) := by decide +kernel
theorem dJ7_fill_d0a16_6 : decode cJ7_fill_d0a16 6 = .ok (.iload_n 3, 1) := by decide +kernel
theorem dJ7_fill_d0a16_7 : decode cJ7_fill_d0a16 7 = .ok (.iload 4, 2) := by decide +kernel
theorem dJ7_fill_d0a16_9 : decode cJ7_fill_d0a16 9 = .ok (.if_icmp .ge 13, 3) := by decide +kernel
theorem dJ7_fill_d0a16_12 : decode cJ7_fill_d0a16 12 = .ok (.aload_n 0, 1) := by decide +kernel
theorem dJ7_fill_d0a16_13 : decode cJ7_fill_d0a16 13 = .ok (.iload_n 3, 1) := by decide +kernel
theorem dJ7_fill_d0a16_14 : decode cJ7_fill_d0a16 14 = .ok (.lload_n 1, 1) := by decide +kernel
theorem dJ7_fill_d0a16_15 : decode cJ7_fill_d0a16 15 = .ok (.lastore, 1) := by decide +kernel
theorem dJ7_fill_d0a16_16 : decode cJ7_fill_d0a16 16 = .ok (.iinc 3 1, 3) := by decide +kernel
theorem dJ7_fill_d0a16_19 : decode cJ7_fill_d0a16 19 = .ok (.goto (-13), 3) := by decide +kernel
theorem dJ7_fill_d0a16_22 : decode cJ7_fill_d0a16 22 = .ok (.return_, 1) := by decide +kernel
theorem dJ7_fill_53178_0 : decode cJ7_fill_53178 0 = .ok (.iconst 0, 1) := by decide +kernel
theorem dJ7_fill_53178_1 : decode cJ7_fill_53178 1 = .ok (.istore_n 2, 1) := by decide +kernel
theorem dJ7_fill_53178_2 : decode cJ7_fill_53178 2 = .ok (.aload_n 0, 1) := by decide +kernel
theorem dJ7_fill_53178_3 : decode cJ7_fill_53178 3 = .ok (.arraylength, 1) := by decide +kernel
theorem dJ7_fill_53178_4 : decode cJ7_fill_53178 4 = .ok (.istore_n 3, 1) := by decide +kernel
theorem dJ7_fill_53178_5 : decode cJ7_fill_53178 5 = .ok (.iload_n 2, 1) := by decide +kernel
theorem dJ7_fill_53178_6 : decode cJ7_fill_53178 6 = .ok (.iload_n 3, 1) := by decide +kernel
theorem dJ7_fill_53178_7 : decode cJ7_fill_53178 7 = .ok (.if_icmp .ge 13, 3) := by decide +kernel
theorem dJ7_fill_53178_10 : decode cJ7_fill_53178 10 = .ok (.aload_n 0, 1) := by decide +kernel
theorem dJ7_fill_53178_11 : decode cJ7_fill_53178 11 = .ok (.iload_n 2, 1) := by decide +kernel
theorem dJ7_fill_53178_12 : decode cJ7_fill_53178 12 = .ok (.iload_n 1, 1) := by decide +kernel
theorem dJ7_fill_53178_13 : decode cJ7_fill_53178 13 = .ok (.iastore, 1) := by decide +kernel
theorem dJ7_fill_53178_14 : decode cJ7_fill_53178 14 = .ok (.iinc 2 1, 3) := by decide +kernel
theorem dJ7_fill_53178_17 : decode cJ7_fill_53178 17 = .ok (.goto (-12), 3) := by decide +kernel
theorem dJ7_fill_53178_20 : decode cJ7_fill_53178 20 = .ok (.return_, 1) := by decide +kernel
theorem dL_sign_0 : decode cL_sign 0 = .ok (.aload_n 3, 1) := by decide +kernel
theorem dL_sign_1 : decode cL_sign 1 = .ok (.iconst 0, 1) := by decide +kernel
theorem dL_sign_2 : decode cL_sign 2 = .ok (.aload_n 0, 1) := by decide +kernel
theorem dL_sign_3 : decode cL_sign 3 = .ok (.iload_n 1, 1) := by decide +kernel
theorem dL_sign_4 : decode cL_sign 4 = .ok (.iload_n 2, 1) := by decide +kernel
theorem dL_sign_5 : decode cL_sign 5 = .ok (.invokevirtual 7, 3) := by decide +kernel
theorem dL_sign_8 : decode cL_sign 8 = .ok (.i2l, 1) := by decide +kernel
theorem dL_sign_9 : decode cL_sign 9 = .ok (.lastore, 1) := by decide +kernel
theorem dL_sign_10 : decode cL_sign 10 = .ok (.goto 7, 3) := by decide +kernel
theorem dL_sign_13 : decode cL_sign 13 = .ok (.astore 4, 2) := by decide +kernel
theorem dL_sign_15 : decode cL_sign 15 = .ok (.iconst 1, 1) := by decide +kernel
theorem dL_sign_16 : decode cL_sign 16 = .ok (.ireturn, 1) := by decide +kernel
theorem dL_sign_17 : decode cL_sign 17 = .ok (.iconst 0, 1) := by decide +kernel
theorem dL_sign_18 : decode cL_sign 18 = .ok (.ireturn, 1) := by decide +kernel
theorem dL_law_0 : decode cL_law 0 = .ok (.new 8, 3) := by decide +kernel
theorem dL_law_3 : decode cL_law 3 = .ok (.dup, 1) := by decide +kernel
theorem dL_law_4 : decode cL_law 4 = .ok (.invokespecial 15, 3) := by decide +kernel
theorem dL_law_7 : decode cL_law 7 = .ok (.astore_n 1, 1) := by decide +kernel
theorem dL_law_8 : decode cL_law 8 = .ok (.new 16, 3) := by decide +kernel
theorem dL_law_11 : decode cL_law 11 = .ok (.dup, 1) := by decide +kernel
theorem dL_law_12 : decode cL_law 12 = .ok (.invokespecial 18, 3) := by decide +kernel
theorem dL_law_15 : decode cL_law 15 = .ok (.astore_n 2, 1) := by decide +kernel
theorem dL_law_16 : decode cL_law 16 = .ok (.iconst 1, 1) := by decide +kernel
theorem dL_law_17 : decode cL_law 17 = .ok (.newarray .long, 2) := by decide +kernel
theorem dL_law_19 : decode cL_law 19 = .ok (.astore_n 3, 1) := by decide +kernel
theorem dL_law_20 : decode cL_law 20 = .ok (.iconst 0, 1) := by decide +kernel
theorem dL_law_21 : decode cL_law 21 = .ok (.istore 4, 2) := by decide +kernel
theorem dL_law_23 : decode cL_law 23 = .ok (.iload 4, 2) := by decide +kernel
theorem dL_law_25 : decode cL_law 25 = .ok (.aload_n 0, 1) := by decide +kernel
theorem dL_law_26 : decode cL_law 26 = .ok (.arraylength, 1) := by decide +kernel
theorem dL_law_27 : decode cL_law 27 = .ok (.bipush 7, 2) := by decide +kernel
theorem dL_law_29 : decode cL_law 29 = .ok (.isub, 1) := by decide +kernel
theorem dL_law_30 : decode cL_law 30 = .ok (.if_icmp .gt 1833, 3) := by decide +kernel
theorem dL_law_33 : decode cL_law 33 = .ok (.aload_n 0, 1) := by decide +kernel
theorem dL_law_34 : decode cL_law 34 = .ok (.iload 4, 2) := by decide +kernel
theorem dL_law_36 : decode cL_law 36 = .ok (.iaload, 1) := by decide +kernel
theorem dL_law_37 : decode cL_law 37 = .ok (.bipush 63, 2) := by decide +kernel
theorem dL_law_39 : decode cL_law 39 = .ok (.iand, 1) := by decide +kernel
theorem dL_law_40 : decode cL_law 40 = .ok (.tableswitch 1817 0 38 #[172, 245, 270, 295, 320, 388, 425, 474, 561, 610, 647, 672, 709, 746, 783, 820, 869, 930, 967, 1040, 1101, 1126, 1163, 1244, 1269, 1310, 1335, 1348, 1422, 1471, 1496, 1533, 1570, 1607, 1680, 1741, 1766, 1779, 1792], 172) := by decide +kernel
theorem dL_law_212 : decode cL_law 212 = .ok (.aload_n 1, 1) := by decide +kernel
theorem dL_law_213 : decode cL_law 213 = .ok (.aload_n 0, 1) := by decide +kernel
theorem dL_law_214 : decode cL_law 214 = .ok (.iload 4, 2) := by decide +kernel
theorem dL_law_216 : decode cL_law 216 = .ok (.iconst 1, 1) := by decide +kernel
theorem dL_law_217 : decode cL_law 217 = .ok (.iadd, 1) := by decide +kernel
theorem dL_law_218 : decode cL_law 218 = .ok (.iaload, 1) := by decide +kernel
theorem dL_law_219 : decode cL_law 219 = .ok (.aload_n 0, 1) := by decide +kernel
theorem dL_law_220 : decode cL_law 220 = .ok (.iload 4, 2) := by decide +kernel
theorem dL_law_222 : decode cL_law 222 = .ok (.iconst 2, 1) := by decide +kernel
theorem dL_law_223 : decode cL_law 223 = .ok (.iadd, 1) := by decide +kernel
theorem dL_law_224 : decode cL_law 224 = .ok (.iaload, 1) := by decide +kernel
theorem dL_law_225 : decode cL_law 225 = .ok (.aload_n 0, 1) := by decide +kernel
theorem dL_law_226 : decode cL_law 226 = .ok (.iload 4, 2) := by decide +kernel
theorem dL_law_228 : decode cL_law 228 = .ok (.iconst 3, 1) := by decide +kernel
theorem dL_law_229 : decode cL_law 229 = .ok (.iadd, 1) := by decide +kernel
theorem dL_law_230 : decode cL_law 230 = .ok (.iaload, 1) := by decide +kernel
theorem dL_law_231 : decode cL_law 231 = .ok (.aload_n 0, 1) := by decide +kernel
theorem dL_law_232 : decode cL_law 232 = .ok (.iload 4, 2) := by decide +kernel
theorem dL_law_234 : decode cL_law 234 = .ok (.iconst 4, 1) := by decide +kernel
theorem dL_law_235 : decode cL_law 235 = .ok (.iadd, 1) := by decide +kernel
theorem dL_law_236 : decode cL_law 236 = .ok (.iaload, 1) := by decide +kernel
theorem dL_law_237 : decode cL_law 237 = .ok (.aload_n 0, 1) := by decide +kernel
theorem dL_law_238 : decode cL_law 238 = .ok (.iload 4, 2) := by decide +kernel
theorem dL_law_240 : decode cL_law 240 = .ok (.iconst 5, 1) := by decide +kernel
theorem dL_law_241 : decode cL_law 241 = .ok (.iadd, 1) := by decide +kernel
theorem dL_law_242 : decode cL_law 242 = .ok (.iaload, 1) := by decide +kernel
theorem dL_law_243 : decode cL_law 243 = .ok (.invokevirtual 19, 3) := by decide +kernel
theorem dL_law_246 : decode cL_law 246 = .ok (.aload_n 2, 1) := by decide +kernel
theorem dL_law_247 : decode cL_law 247 = .ok (.aload_n 0, 1) := by decide +kernel
theorem dL_law_248 : decode cL_law 248 = .ok (.iload 4, 2) := by decide +kernel
theorem dL_law_250 : decode cL_law 250 = .ok (.iconst 1, 1) := by decide +kernel
theorem dL_law_251 : decode cL_law 251 = .ok (.iadd, 1) := by decide +kernel
theorem dL_law_252 : decode cL_law 252 = .ok (.iaload, 1) := by decide +kernel
theorem dL_law_253 : decode cL_law 253 = .ok (.aload_n 0, 1) := by decide +kernel
theorem dL_law_254 : decode cL_law 254 = .ok (.iload 4, 2) := by decide +kernel
theorem dL_law_256 : decode cL_law 256 = .ok (.iconst 2, 1) := by decide +kernel
theorem dL_law_257 : decode cL_law 257 = .ok (.iadd, 1) := by decide +kernel
theorem dL_law_258 : decode cL_law 258 = .ok (.iaload, 1) := by decide +kernel
theorem dL_law_259 : decode cL_law 259 = .ok (.aload_n 0, 1) := by decide +kernel
theorem dL_law_260 : decode cL_law 260 = .ok (.iload 4, 2) := by decide +kernel
theorem dL_law_262 : decode cL_law 262 = .ok (.iconst 3, 1) := by decide +kernel
theorem dL_law_263 : decode cL_law 263 = .ok (.iadd, 1) := by decide +kernel
theorem dL_law_264 : decode cL_law 264 = .ok (.iaload, 1) := by decide +kernel
theorem dL_law_265 : decode cL_law 265 = .ok (.aload_n 0, 1) := by decide +kernel
theorem dL_law_266 : decode cL_law 266 = .ok (.iload 4, 2) := by decide +kernel
theorem dL_law_268 : decode cL_law 268 = .ok (.iconst 4, 1) := by decide +kernel
theorem dL_law_269 : decode cL_law 269 = .ok (.iadd, 1) := by decide +kernel
theorem dL_law_270 : decode cL_law 270 = .ok (.iaload, 1) := by decide +kernel
theorem dL_law_271 : decode cL_law 271 = .ok (.aload_n 0, 1) := by decide +kernel
theorem dL_law_272 : decode cL_law 272 = .ok (.iload 4, 2) := by decide +kernel
theorem dL_law_274 : decode cL_law 274 = .ok (.iconst 5, 1) := by decide +kernel
theorem dL_law_275 : decode cL_law 275 = .ok (.iadd, 1) := by decide +kernel
theorem dL_law_276 : decode cL_law 276 = .ok (.iaload, 1) := by decide +kernel
theorem dL_law_277 : decode cL_law 277 = .ok (.invokevirtual 23, 3) := by decide +kernel
theorem dL_law_280 : decode cL_law 280 = .ok (.if_icmp .eq 1577, 3) := by decide +kernel
theorem dL_law_283 : decode cL_law 283 = .ok (.iconst 0, 1) := by decide +kernel
theorem dL_law_284 : decode cL_law 284 = .ok (.ireturn, 1) := by decide +kernel
theorem dL_law_285 : decode cL_law 285 = .ok (.aload_n 1, 1) := by decide +kernel
theorem dL_law_286 : decode cL_law 286 = .ok (.aload_n 0, 1) := by decide +kernel
theorem dL_law_287 : decode cL_law 287 = .ok (.iload 4, 2) := by decide +kernel
theorem dL_law_289 : decode cL_law 289 = .ok (.iconst 1, 1) := by decide +kernel
theorem dL_law_290 : decode cL_law 290 = .ok (.iadd, 1) := by decide +kernel
theorem dL_law_291 : decode cL_law 291 = .ok (.iaload, 1) := by decide +kernel
theorem dL_law_292 : decode cL_law 292 = .ok (.invokevirtual 24, 3) := by decide +kernel
theorem dL_law_295 : decode cL_law 295 = .ok (.aload_n 2, 1) := by decide +kernel
theorem dL_law_296 : decode cL_law 296 = .ok (.aload_n 0, 1) := by decide +kernel
theorem dL_law_297 : decode cL_law 297 = .ok (.iload 4, 2) := by decide +kernel
theorem dL_law_299 : decode cL_law 299 = .ok (.iconst 1, 1) := by decide +kernel
theorem dL_law_300 : decode cL_law 300 = .ok (.iadd, 1) := by decide +kernel
theorem dL_law_301 : decode cL_law 301 = .ok (.iaload, 1) := by decide +kernel
theorem dL_law_302 : decode cL_law 302 = .ok (.invokevirtual 28, 3) := by decide +kernel
theorem dL_law_305 : decode cL_law 305 = .ok (.if_icmp .eq 1552, 3) := by decide +kernel
theorem dL_law_308 : decode cL_law 308 = .ok (.iconst 0, 1) := by decide +kernel
theorem dL_law_309 : decode cL_law 309 = .ok (.ireturn, 1) := by decide +kernel
theorem dL_law_310 : decode cL_law 310 = .ok (.aload_n 1, 1) := by decide +kernel
theorem dL_law_311 : decode cL_law 311 = .ok (.aload_n 0, 1) := by decide +kernel
theorem dL_law_312 : decode cL_law 312 = .ok (.iload 4, 2) := by decide +kernel
theorem dL_law_314 : decode cL_law 314 = .ok (.iconst 1, 1) := by decide +kernel
theorem dL_law_315 : decode cL_law 315 = .ok (.iadd, 1) := by decide +kernel
theorem dL_law_316 : decode cL_law 316 = .ok (.iaload, 1) := by decide +kernel
theorem dL_law_317 : decode cL_law 317 = .ok (.invokevirtual 29, 3) := by decide +kernel
theorem dL_law_320 : decode cL_law 320 = .ok (.aload_n 2, 1) := by decide +kernel
theorem dL_law_321 : decode cL_law 321 = .ok (.aload_n 0, 1) := by decide +kernel
theorem dL_law_322 : decode cL_law 322 = .ok (.iload 4, 2) := by decide +kernel
theorem dL_law_324 : decode cL_law 324 = .ok (.iconst 1, 1) := by decide +kernel
theorem dL_law_325 : decode cL_law 325 = .ok (.iadd, 1) := by decide +kernel
theorem dL_law_326 : decode cL_law 326 = .ok (.iaload, 1) := by decide +kernel
theorem dL_law_327 : decode cL_law 327 = .ok (.invokevirtual 33, 3) := by decide +kernel
theorem dL_law_330 : decode cL_law 330 = .ok (.if_icmp .eq 1527, 3) := by decide +kernel
theorem dL_law_333 : decode cL_law 333 = .ok (.iconst 0, 1) := by decide +kernel
theorem dL_law_334 : decode cL_law 334 = .ok (.ireturn, 1) := by decide +kernel
theorem dL_law_335 : decode cL_law 335 = .ok (.aload_n 1, 1) := by decide +kernel
theorem dL_law_336 : decode cL_law 336 = .ok (.aload_n 0, 1) := by decide +kernel
theorem dL_law_337 : decode cL_law 337 = .ok (.iload 4, 2) := by decide +kernel
theorem dL_law_339 : decode cL_law 339 = .ok (.iconst 1, 1) := by decide +kernel
theorem dL_law_340 : decode cL_law 340 = .ok (.iadd, 1) := by decide +kernel
theorem dL_law_341 : decode cL_law 341 = .ok (.iaload, 1) := by decide +kernel
theorem dL_law_342 : decode cL_law 342 = .ok (.invokevirtual 34, 3) := by decide +kernel
theorem dL_law_345 : decode cL_law 345 = .ok (.aload_n 2, 1) := by decide +kernel
theorem dL_law_346 : decode cL_law 346 = .ok (.aload_n 0, 1) := by decide +kernel
theorem dL_law_347 : decode cL_law 347 = .ok (.iload 4, 2) := by decide +kernel
theorem dL_law_349 : decode cL_law 349 = .ok (.iconst 1, 1) := by decide +kernel
theorem dL_law_350 : decode cL_law 350 = .ok (.iadd, 1) := by decide +kernel
theorem dL_law_351 : decode cL_law 351 = .ok (.iaload, 1) := by decide +kernel
theorem dL_law_352 : decode cL_law 352 = .ok (.invokevirtual 37, 3) := by decide +kernel
theorem dL_law_355 : decode cL_law 355 = .ok (.if_icmp .eq 1502, 3) := by decide +kernel
theorem dL_law_358 : decode cL_law 358 = .ok (.iconst 0, 1) := by decide +kernel
theorem dL_law_359 : decode cL_law 359 = .ok (.ireturn, 1) := by decide +kernel
theorem dL_law_360 : decode cL_law 360 = .ok (.aload_n 1, 1) := by decide +kernel
theorem dL_law_361 : decode cL_law 361 = .ok (.aload_n 0, 1) := by decide +kernel
theorem dL_law_362 : decode cL_law 362 = .ok (.iload 4, 2) := by decide +kernel
theorem dL_law_364 : decode cL_law 364 = .ok (.iconst 1, 1) := by decide +kernel
theorem dL_law_365 : decode cL_law 365 = .ok (.iadd, 1) := by decide +kernel
theorem dL_law_366 : decode cL_law 366 = .ok (.iaload, 1) := by decide +kernel
theorem dL_law_367 : decode cL_law 367 = .ok (.aload_n 0, 1) := by decide +kernel
theorem dL_law_368 : decode cL_law 368 = .ok (.iload 4, 2) := by decide +kernel
theorem dL_law_370 : decode cL_law 370 = .ok (.iconst 2, 1) := by decide +kernel
theorem dL_law_371 : decode cL_law 371 = .ok (.iadd, 1) := by decide +kernel
theorem dL_law_372 : decode cL_law 372 = .ok (.iaload, 1) := by decide +kernel
theorem dL_law_373 : decode cL_law 373 = .ok (.aload_n 3, 1) := by decide +kernel
theorem dL_law_374 : decode cL_law 374 = .ok (.invokestatic 38, 3) := by decide +kernel
theorem dL_law_377 : decode cL_law 377 = .ok (.istore 5, 2) := by decide +kernel
theorem dL_law_379 : decode cL_law 379 = .ok (.aload_n 2, 1) := by decide +kernel
theorem dL_law_380 : decode cL_law 380 = .ok (.aload_n 0, 1) := by decide +kernel
theorem dL_law_381 : decode cL_law 381 = .ok (.iload 4, 2) := by decide +kernel
theorem dL_law_383 : decode cL_law 383 = .ok (.iconst 1, 1) := by decide +kernel
theorem dL_law_384 : decode cL_law 384 = .ok (.iadd, 1) := by decide +kernel
theorem dL_law_385 : decode cL_law 385 = .ok (.iaload, 1) := by decide +kernel
theorem dL_law_386 : decode cL_law 386 = .ok (.aload_n 0, 1) := by decide +kernel
theorem dL_law_387 : decode cL_law 387 = .ok (.iload 4, 2) := by decide +kernel
theorem dL_law_389 : decode cL_law 389 = .ok (.iconst 2, 1) := by decide +kernel
theorem dL_law_390 : decode cL_law 390 = .ok (.iadd, 1) := by decide +kernel
theorem dL_law_391 : decode cL_law 391 = .ok (.iaload, 1) := by decide +kernel
theorem dL_law_392 : decode cL_law 392 = .ok (.invokevirtual 43, 3) := by decide +kernel
theorem dL_law_395 : decode cL_law 395 = .ok (.istore 6, 2) := by decide +kernel
theorem dL_law_397 : decode cL_law 397 = .ok (.aload_n 2, 1) := by decide +kernel
theorem dL_law_398 : decode cL_law 398 = .ok (.invokevirtual 44, 3) := by decide +kernel
theorem dL_law_401 : decode cL_law 401 = .ok (.iload 5, 2) := by decide +kernel
theorem dL_law_403 : decode cL_law 403 = .ok (.if_icmp .eq 5, 3) := by decide +kernel
theorem dL_law_406 : decode cL_law 406 = .ok (.iconst 0, 1) := by decide +kernel
theorem dL_law_407 : decode cL_law 407 = .ok (.ireturn, 1) := by decide +kernel
theorem dL_law_408 : decode cL_law 408 = .ok (.iload 5, 2) := by decide +kernel
theorem dL_law_410 : decode cL_law 410 = .ok (.ifCond .ne 15, 3) := by decide +kernel
theorem dL_law_413 : decode cL_law 413 = .ok (.aload_n 3, 1) := by decide +kernel
theorem dL_law_414 : decode cL_law 414 = .ok (.iconst 0, 1) := by decide +kernel
theorem dL_law_415 : decode cL_law 415 = .ok (.laload, 1) := by decide +kernel
theorem dL_law_416 : decode cL_law 416 = .ok (.iload 6, 2) := by decide +kernel
theorem dL_law_418 : decode cL_law 418 = .ok (.i2l, 1) := by decide +kernel
theorem dL_law_419 : decode cL_law 419 = .ok (.lcmp, 1) := by decide +kernel
theorem dL_law_420 : decode cL_law 420 = .ok (.ifCond .eq 5, 3) := by decide +kernel
theorem dL_law_423 : decode cL_law 423 = .ok (.iconst 0, 1) := by decide +kernel
theorem dL_law_424 : decode cL_law 424 = .ok (.ireturn, 1) := by decide +kernel
theorem dL_law_425 : decode cL_law 425 = .ok (.goto 1432, 3) := by decide +kernel
theorem dL_law_428 : decode cL_law 428 = .ok (.aload_n 1, 1) := by decide +kernel
theorem dL_law_429 : decode cL_law 429 = .ok (.aload_n 0, 1) := by decide +kernel
theorem dL_law_430 : decode cL_law 430 = .ok (.iload 4, 2) := by decide +kernel
theorem dL_law_432 : decode cL_law 432 = .ok (.iconst 1, 1) := by decide +kernel
theorem dL_law_433 : decode cL_law 433 = .ok (.iadd, 1) := by decide +kernel
theorem dL_law_434 : decode cL_law 434 = .ok (.iaload, 1) := by decide +kernel
theorem dL_law_435 : decode cL_law 435 = .ok (.aload_n 0, 1) := by decide +kernel
theorem dL_law_436 : decode cL_law 436 = .ok (.iload 4, 2) := by decide +kernel
theorem dL_law_438 : decode cL_law 438 = .ok (.iconst 2, 1) := by decide +kernel
theorem dL_law_439 : decode cL_law 439 = .ok (.iadd, 1) := by decide +kernel
theorem dL_law_440 : decode cL_law 440 = .ok (.iaload, 1) := by decide +kernel
theorem dL_law_441 : decode cL_law 441 = .ok (.invokevirtual 48, 3) := by decide +kernel
theorem dL_law_444 : decode cL_law 444 = .ok (.aload_n 2, 1) := by decide +kernel
theorem dL_law_445 : decode cL_law 445 = .ok (.aload_n 0, 1) := by decide +kernel
theorem dL_law_446 : decode cL_law 446 = .ok (.iload 4, 2) := by decide +kernel
theorem dL_law_448 : decode cL_law 448 = .ok (.iconst 1, 1) := by decide +kernel
theorem dL_law_449 : decode cL_law 449 = .ok (.iadd, 1) := by decide +kernel
theorem dL_law_450 : decode cL_law 450 = .ok (.iaload, 1) := by decide +kernel
theorem dL_law_451 : decode cL_law 451 = .ok (.aload_n 0, 1) := by decide +kernel
theorem dL_law_452 : decode cL_law 452 = .ok (.iload 4, 2) := by decide +kernel
theorem dL_law_454 : decode cL_law 454 = .ok (.iconst 2, 1) := by decide +kernel
theorem dL_law_455 : decode cL_law 455 = .ok (.iadd, 1) := by decide +kernel
theorem dL_law_456 : decode cL_law 456 = .ok (.iaload, 1) := by decide +kernel
theorem dL_law_457 : decode cL_law 457 = .ok (.invokevirtual 51, 3) := by decide +kernel
theorem dL_law_460 : decode cL_law 460 = .ok (.if_icmp .eq 1397, 3) := by decide +kernel
theorem dL_law_463 : decode cL_law 463 = .ok (.iconst 0, 1) := by decide +kernel
theorem dL_law_464 : decode cL_law 464 = .ok (.ireturn, 1) := by decide +kernel
theorem dL_law_465 : decode cL_law 465 = .ok (.aload_n 1, 1) := by decide +kernel
theorem dL_law_466 : decode cL_law 466 = .ok (.aload_n 0, 1) := by decide +kernel
theorem dL_law_467 : decode cL_law 467 = .ok (.iload 4, 2) := by decide +kernel
theorem dL_law_469 : decode cL_law 469 = .ok (.iconst 1, 1) := by decide +kernel
theorem dL_law_470 : decode cL_law 470 = .ok (.iadd, 1) := by decide +kernel
theorem dL_law_471 : decode cL_law 471 = .ok (.iaload, 1) := by decide +kernel
theorem dL_law_472 : decode cL_law 472 = .ok (.aload_n 0, 1) := by decide +kernel
theorem dL_law_473 : decode cL_law 473 = .ok (.iload 4, 2) := by decide +kernel
theorem dL_law_475 : decode cL_law 475 = .ok (.iconst 2, 1) := by decide +kernel
theorem dL_law_476 : decode cL_law 476 = .ok (.iadd, 1) := by decide +kernel
theorem dL_law_477 : decode cL_law 477 = .ok (.iaload, 1) := by decide +kernel
theorem dL_law_478 : decode cL_law 478 = .ok (.aload_n 0, 1) := by decide +kernel
theorem dL_law_479 : decode cL_law 479 = .ok (.iload 4, 2) := by decide +kernel
theorem dL_law_481 : decode cL_law 481 = .ok (.iconst 3, 1) := by decide +kernel
theorem dL_law_482 : decode cL_law 482 = .ok (.iadd, 1) := by decide +kernel
theorem dL_law_483 : decode cL_law 483 = .ok (.iaload, 1) := by decide +kernel
theorem dL_law_484 : decode cL_law 484 = .ok (.invokevirtual 52, 3) := by decide +kernel
theorem dL_law_487 : decode cL_law 487 = .ok (.aload_n 2, 1) := by decide +kernel
theorem dL_law_488 : decode cL_law 488 = .ok (.aload_n 0, 1) := by decide +kernel
theorem dL_law_489 : decode cL_law 489 = .ok (.iload 4, 2) := by decide +kernel
theorem dL_law_491 : decode cL_law 491 = .ok (.iconst 1, 1) := by decide +kernel
theorem dL_law_492 : decode cL_law 492 = .ok (.iadd, 1) := by decide +kernel
theorem dL_law_493 : decode cL_law 493 = .ok (.iaload, 1) := by decide +kernel
theorem dL_law_494 : decode cL_law 494 = .ok (.aload_n 0, 1) := by decide +kernel
theorem dL_law_495 : decode cL_law 495 = .ok (.iload 4, 2) := by decide +kernel
theorem dL_law_497 : decode cL_law 497 = .ok (.iconst 2, 1) := by decide +kernel
theorem dL_law_498 : decode cL_law 498 = .ok (.iadd, 1) := by decide +kernel
theorem dL_law_499 : decode cL_law 499 = .ok (.iaload, 1) := by decide +kernel
theorem dL_law_500 : decode cL_law 500 = .ok (.aload_n 0, 1) := by decide +kernel
theorem dL_law_501 : decode cL_law 501 = .ok (.iload 4, 2) := by decide +kernel
theorem dL_law_503 : decode cL_law 503 = .ok (.iconst 3, 1) := by decide +kernel
theorem dL_law_504 : decode cL_law 504 = .ok (.iadd, 1) := by decide +kernel
theorem dL_law_505 : decode cL_law 505 = .ok (.iaload, 1) := by decide +kernel
theorem dL_law_506 : decode cL_law 506 = .ok (.invokevirtual 56, 3) := by decide +kernel
theorem dL_law_509 : decode cL_law 509 = .ok (.if_icmp .eq 1348, 3) := by decide +kernel
theorem dL_law_512 : decode cL_law 512 = .ok (.iconst 0, 1) := by decide +kernel
theorem dL_law_513 : decode cL_law 513 = .ok (.ireturn, 1) := by decide +kernel
theorem dL_law_514 : decode cL_law 514 = .ok (.aload_n 1, 1) := by decide +kernel
theorem dL_law_515 : decode cL_law 515 = .ok (.aload_n 0, 1) := by decide +kernel
theorem dL_law_516 : decode cL_law 516 = .ok (.iload 4, 2) := by decide +kernel
theorem dL_law_518 : decode cL_law 518 = .ok (.iconst 1, 1) := by decide +kernel
theorem dL_law_519 : decode cL_law 519 = .ok (.iadd, 1) := by decide +kernel
theorem dL_law_520 : decode cL_law 520 = .ok (.iaload, 1) := by decide +kernel
theorem dL_law_521 : decode cL_law 521 = .ok (.aload_n 0, 1) := by decide +kernel
theorem dL_law_522 : decode cL_law 522 = .ok (.iload 4, 2) := by decide +kernel
theorem dL_law_524 : decode cL_law 524 = .ok (.iconst 2, 1) := by decide +kernel
theorem dL_law_525 : decode cL_law 525 = .ok (.iadd, 1) := by decide +kernel
theorem dL_law_526 : decode cL_law 526 = .ok (.iaload, 1) := by decide +kernel
theorem dL_law_527 : decode cL_law 527 = .ok (.aload_n 0, 1) := by decide +kernel
theorem dL_law_528 : decode cL_law 528 = .ok (.iload 4, 2) := by decide +kernel
theorem dL_law_530 : decode cL_law 530 = .ok (.iconst 3, 1) := by decide +kernel
theorem dL_law_531 : decode cL_law 531 = .ok (.iadd, 1) := by decide +kernel
theorem dL_law_532 : decode cL_law 532 = .ok (.iaload, 1) := by decide +kernel
theorem dL_law_533 : decode cL_law 533 = .ok (.aload_n 0, 1) := by decide +kernel
theorem dL_law_534 : decode cL_law 534 = .ok (.iload 4, 2) := by decide +kernel
theorem dL_law_536 : decode cL_law 536 = .ok (.iconst 4, 1) := by decide +kernel
theorem dL_law_537 : decode cL_law 537 = .ok (.iadd, 1) := by decide +kernel
theorem dL_law_538 : decode cL_law 538 = .ok (.iaload, 1) := by decide +kernel
theorem dL_law_539 : decode cL_law 539 = .ok (.aload_n 0, 1) := by decide +kernel
theorem dL_law_540 : decode cL_law 540 = .ok (.iload 4, 2) := by decide +kernel
theorem dL_law_542 : decode cL_law 542 = .ok (.iconst 5, 1) := by decide +kernel
theorem dL_law_543 : decode cL_law 543 = .ok (.iadd, 1) := by decide +kernel
theorem dL_law_544 : decode cL_law 544 = .ok (.iaload, 1) := by decide +kernel
theorem dL_law_545 : decode cL_law 545 = .ok (.aload_n 0, 1) := by decide +kernel
theorem dL_law_546 : decode cL_law 546 = .ok (.iload 4, 2) := by decide +kernel
theorem dL_law_548 : decode cL_law 548 = .ok (.bipush 6, 2) := by decide +kernel
theorem dL_law_550 : decode cL_law 550 = .ok (.iadd, 1) := by decide +kernel
theorem dL_law_551 : decode cL_law 551 = .ok (.iaload, 1) := by decide +kernel
theorem dL_law_552 : decode cL_law 552 = .ok (.invokevirtual 57, 3) := by decide +kernel
theorem dL_law_555 : decode cL_law 555 = .ok (.aload_n 2, 1) := by decide +kernel
theorem dL_law_556 : decode cL_law 556 = .ok (.aload_n 0, 1) := by decide +kernel
theorem dL_law_557 : decode cL_law 557 = .ok (.iload 4, 2) := by decide +kernel
theorem dL_law_559 : decode cL_law 559 = .ok (.iconst 1, 1) := by decide +kernel
theorem dL_law_560 : decode cL_law 560 = .ok (.iadd, 1) := by decide +kernel
theorem dL_law_561 : decode cL_law 561 = .ok (.iaload, 1) := by decide +kernel
theorem dL_law_562 : decode cL_law 562 = .ok (.aload_n 0, 1) := by decide +kernel
theorem dL_law_563 : decode cL_law 563 = .ok (.iload 4, 2) := by decide +kernel
theorem dL_law_565 : decode cL_law 565 = .ok (.iconst 2, 1) := by decide +kernel
theorem dL_law_566 : decode cL_law 566 = .ok (.iadd, 1) := by decide +kernel
theorem dL_law_567 : decode cL_law 567 = .ok (.iaload, 1) := by decide +kernel
theorem dL_law_568 : decode cL_law 568 = .ok (.aload_n 0, 1) := by decide +kernel
theorem dL_law_569 : decode cL_law 569 = .ok (.iload 4, 2) := by decide +kernel
theorem dL_law_571 : decode cL_law 571 = .ok (.iconst 3, 1) := by decide +kernel
theorem dL_law_572 : decode cL_law 572 = .ok (.iadd, 1) := by decide +kernel
theorem dL_law_573 : decode cL_law 573 = .ok (.iaload, 1) := by decide +kernel
theorem dL_law_574 : decode cL_law 574 = .ok (.aload_n 0, 1) := by decide +kernel
theorem dL_law_575 : decode cL_law 575 = .ok (.iload 4, 2) := by decide +kernel
theorem dL_law_577 : decode cL_law 577 = .ok (.iconst 4, 1) := by decide +kernel
theorem dL_law_578 : decode cL_law 578 = .ok (.iadd, 1) := by decide +kernel
theorem dL_law_579 : decode cL_law 579 = .ok (.iaload, 1) := by decide +kernel
theorem dL_law_580 : decode cL_law 580 = .ok (.aload_n 0, 1) := by decide +kernel
theorem dL_law_581 : decode cL_law 581 = .ok (.iload 4, 2) := by decide +kernel
theorem dL_law_583 : decode cL_law 583 = .ok (.iconst 5, 1) := by decide +kernel
theorem dL_law_584 : decode cL_law 584 = .ok (.iadd, 1) := by decide +kernel
theorem dL_law_585 : decode cL_law 585 = .ok (.iaload, 1) := by decide +kernel
theorem dL_law_586 : decode cL_law 586 = .ok (.aload_n 0, 1) := by decide +kernel
theorem dL_law_587 : decode cL_law 587 = .ok (.iload 4, 2) := by decide +kernel
theorem dL_law_589 : decode cL_law 589 = .ok (.bipush 6, 2) := by decide +kernel
theorem dL_law_591 : decode cL_law 591 = .ok (.iadd, 1) := by decide +kernel
theorem dL_law_592 : decode cL_law 592 = .ok (.iaload, 1) := by decide +kernel
theorem dL_law_593 : decode cL_law 593 = .ok (.invokevirtual 61, 3) := by decide +kernel
theorem dL_law_596 : decode cL_law 596 = .ok (.if_icmp .eq 1261, 3) := by decide +kernel
theorem dL_law_599 : decode cL_law 599 = .ok (.iconst 0, 1) := by decide +kernel
theorem dL_law_600 : decode cL_law 600 = .ok (.ireturn, 1) := by decide +kernel
theorem dL_law_601 : decode cL_law 601 = .ok (.aload_n 1, 1) := by decide +kernel
theorem dL_law_602 : decode cL_law 602 = .ok (.aload_n 0, 1) := by decide +kernel
theorem dL_law_603 : decode cL_law 603 = .ok (.iload 4, 2) := by decide +kernel
theorem dL_law_605 : decode cL_law 605 = .ok (.iconst 1, 1) := by decide +kernel
theorem dL_law_606 : decode cL_law 606 = .ok (.iadd, 1) := by decide +kernel
theorem dL_law_607 : decode cL_law 607 = .ok (.iaload, 1) := by decide +kernel
theorem dL_law_608 : decode cL_law 608 = .ok (.aload_n 0, 1) := by decide +kernel
theorem dL_law_609 : decode cL_law 609 = .ok (.iload 4, 2) := by decide +kernel
theorem dL_law_611 : decode cL_law 611 = .ok (.iconst 2, 1) := by decide +kernel
theorem dL_law_612 : decode cL_law 612 = .ok (.iadd, 1) := by decide +kernel
theorem dL_law_613 : decode cL_law 613 = .ok (.iaload, 1) := by decide +kernel
theorem dL_law_614 : decode cL_law 614 = .ok (.aload_n 0, 1) := by decide +kernel
theorem dL_law_615 : decode cL_law 615 = .ok (.iload 4, 2) := by decide +kernel
theorem dL_law_617 : decode cL_law 617 = .ok (.iconst 3, 1) := by decide +kernel
theorem dL_law_618 : decode cL_law 618 = .ok (.iadd, 1) := by decide +kernel
theorem dL_law_619 : decode cL_law 619 = .ok (.iaload, 1) := by decide +kernel
theorem dL_law_620 : decode cL_law 620 = .ok (.invokevirtual 62, 3) := by decide +kernel
theorem dL_law_623 : decode cL_law 623 = .ok (.aload_n 2, 1) := by decide +kernel
theorem dL_law_624 : decode cL_law 624 = .ok (.aload_n 0, 1) := by decide +kernel
theorem dL_law_625 : decode cL_law 625 = .ok (.iload 4, 2) := by decide +kernel
theorem dL_law_627 : decode cL_law 627 = .ok (.iconst 1, 1) := by decide +kernel
theorem dL_law_628 : decode cL_law 628 = .ok (.iadd, 1) := by decide +kernel
theorem dL_law_629 : decode cL_law 629 = .ok (.iaload, 1) := by decide +kernel
theorem dL_law_630 : decode cL_law 630 = .ok (.aload_n 0, 1) := by decide +kernel
theorem dL_law_631 : decode cL_law 631 = .ok (.iload 4, 2) := by decide +kernel
theorem dL_law_633 : decode cL_law 633 = .ok (.iconst 2, 1) := by decide +kernel
theorem dL_law_634 : decode cL_law 634 = .ok (.iadd, 1) := by decide +kernel
theorem dL_law_635 : decode cL_law 635 = .ok (.iaload, 1) := by decide +kernel
theorem dL_law_636 : decode cL_law 636 = .ok (.aload_n 0, 1) := by decide +kernel
theorem dL_law_637 : decode cL_law 637 = .ok (.iload 4, 2) := by decide +kernel
theorem dL_law_639 : decode cL_law 639 = .ok (.iconst 3, 1) := by decide +kernel
theorem dL_law_640 : decode cL_law 640 = .ok (.iadd, 1) := by decide +kernel
theorem dL_law_641 : decode cL_law 641 = .ok (.iaload, 1) := by decide +kernel
theorem dL_law_642 : decode cL_law 642 = .ok (.invokevirtual 65, 3) := by decide +kernel
theorem dL_law_645 : decode cL_law 645 = .ok (.if_icmp .eq 1212, 3) := by decide +kernel
theorem dL_law_648 : decode cL_law 648 = .ok (.iconst 0, 1) := by decide +kernel
theorem dL_law_649 : decode cL_law 649 = .ok (.ireturn, 1) := by decide +kernel
theorem dL_law_650 : decode cL_law 650 = .ok (.aload_n 1, 1) := by decide +kernel
theorem dL_law_651 : decode cL_law 651 = .ok (.aload_n 0, 1) := by decide +kernel
theorem dL_law_652 : decode cL_law 652 = .ok (.iload 4, 2) := by decide +kernel
theorem dL_law_654 : decode cL_law 654 = .ok (.iconst 1, 1) := by decide +kernel
theorem dL_law_655 : decode cL_law 655 = .ok (.iadd, 1) := by decide +kernel
theorem dL_law_656 : decode cL_law 656 = .ok (.iaload, 1) := by decide +kernel
theorem dL_law_657 : decode cL_law 657 = .ok (.aload_n 0, 1) := by decide +kernel
theorem dL_law_658 : decode cL_law 658 = .ok (.iload 4, 2) := by decide +kernel
theorem dL_law_660 : decode cL_law 660 = .ok (.iconst 2, 1) := by decide +kernel
theorem dL_law_661 : decode cL_law 661 = .ok (.iadd, 1) := by decide +kernel
theorem dL_law_662 : decode cL_law 662 = .ok (.iaload, 1) := by decide +kernel
theorem dL_law_663 : decode cL_law 663 = .ok (.invokevirtual 66, 3) := by decide +kernel
theorem dL_law_666 : decode cL_law 666 = .ok (.aload_n 2, 1) := by decide +kernel
theorem dL_law_667 : decode cL_law 667 = .ok (.aload_n 0, 1) := by decide +kernel
theorem dL_law_668 : decode cL_law 668 = .ok (.iload 4, 2) := by decide +kernel
theorem dL_law_670 : decode cL_law 670 = .ok (.iconst 1, 1) := by decide +kernel
theorem dL_law_671 : decode cL_law 671 = .ok (.iadd, 1) := by decide +kernel
theorem dL_law_672 : decode cL_law 672 = .ok (.iaload, 1) := by decide +kernel
theorem dL_law_673 : decode cL_law 673 = .ok (.aload_n 0, 1) := by decide +kernel
theorem dL_law_674 : decode cL_law 674 = .ok (.iload 4, 2) := by decide +kernel
theorem dL_law_676 : decode cL_law 676 = .ok (.iconst 2, 1) := by decide +kernel
theorem dL_law_677 : decode cL_law 677 = .ok (.iadd, 1) := by decide +kernel
theorem dL_law_678 : decode cL_law 678 = .ok (.iaload, 1) := by decide +kernel
theorem dL_law_679 : decode cL_law 679 = .ok (.invokevirtual 69, 3) := by decide +kernel
theorem dL_law_682 : decode cL_law 682 = .ok (.if_icmp .eq 1175, 3) := by decide +kernel
theorem dL_law_685 : decode cL_law 685 = .ok (.iconst 0, 1) := by decide +kernel
theorem dL_law_686 : decode cL_law 686 = .ok (.ireturn, 1) := by decide +kernel
theorem dL_law_687 : decode cL_law 687 = .ok (.aload_n 1, 1) := by decide +kernel
theorem dL_law_688 : decode cL_law 688 = .ok (.aload_n 0, 1) := by decide +kernel
theorem dL_law_689 : decode cL_law 689 = .ok (.iload 4, 2) := by decide +kernel
theorem dL_law_691 : decode cL_law 691 = .ok (.iconst 1, 1) := by decide +kernel
theorem dL_law_692 : decode cL_law 692 = .ok (.iadd, 1) := by decide +kernel
theorem dL_law_693 : decode cL_law 693 = .ok (.iaload, 1) := by decide +kernel
theorem dL_law_694 : decode cL_law 694 = .ok (.invokevirtual 70, 3) := by decide +kernel
theorem dL_law_697 : decode cL_law 697 = .ok (.aload_n 2, 1) := by decide +kernel
theorem dL_law_698 : decode cL_law 698 = .ok (.aload_n 0, 1) := by decide +kernel
theorem dL_law_699 : decode cL_law 699 = .ok (.iload 4, 2) := by decide +kernel
theorem dL_law_701 : decode cL_law 701 = .ok (.iconst 1, 1) := by decide +kernel
theorem dL_law_702 : decode cL_law 702 = .ok (.iadd, 1) := by decide +kernel
theorem dL_law_703 : decode cL_law 703 = .ok (.iaload, 1) := by decide +kernel
theorem dL_law_704 : decode cL_law 704 = .ok (.invokevirtual 73, 3) := by decide +kernel
theorem dL_law_707 : decode cL_law 707 = .ok (.if_icmp .eq 1150, 3) := by decide +kernel
theorem dL_law_710 : decode cL_law 710 = .ok (.iconst 0, 1) := by decide +kernel
theorem dL_law_711 : decode cL_law 711 = .ok (.ireturn, 1) := by decide +kernel
theorem dL_law_712 : decode cL_law 712 = .ok (.aload_n 1, 1) := by decide +kernel
theorem dL_law_713 : decode cL_law 713 = .ok (.aload_n 0, 1) := by decide +kernel
theorem dL_law_714 : decode cL_law 714 = .ok (.iload 4, 2) := by decide +kernel
theorem dL_law_716 : decode cL_law 716 = .ok (.iconst 1, 1) := by decide +kernel
theorem dL_law_717 : decode cL_law 717 = .ok (.iadd, 1) := by decide +kernel
theorem dL_law_718 : decode cL_law 718 = .ok (.iaload, 1) := by decide +kernel
theorem dL_law_719 : decode cL_law 719 = .ok (.aload_n 0, 1) := by decide +kernel
theorem dL_law_720 : decode cL_law 720 = .ok (.iload 4, 2) := by decide +kernel
theorem dL_law_722 : decode cL_law 722 = .ok (.iconst 2, 1) := by decide +kernel
theorem dL_law_723 : decode cL_law 723 = .ok (.iadd, 1) := by decide +kernel
theorem dL_law_724 : decode cL_law 724 = .ok (.iaload, 1) := by decide +kernel
theorem dL_law_725 : decode cL_law 725 = .ok (.invokevirtual 74, 3) := by decide +kernel
theorem dL_law_728 : decode cL_law 728 = .ok (.aload_n 2, 1) := by decide +kernel
theorem dL_law_729 : decode cL_law 729 = .ok (.aload_n 0, 1) := by decide +kernel
theorem dL_law_730 : decode cL_law 730 = .ok (.iload 4, 2) := by decide +kernel
theorem dL_law_732 : decode cL_law 732 = .ok (.iconst 1, 1) := by decide +kernel
theorem dL_law_733 : decode cL_law 733 = .ok (.iadd, 1) := by decide +kernel
theorem dL_law_734 : decode cL_law 734 = .ok (.iaload, 1) := by decide +kernel
theorem dL_law_735 : decode cL_law 735 = .ok (.aload_n 0, 1) := by decide +kernel
theorem dL_law_736 : decode cL_law 736 = .ok (.iload 4, 2) := by decide +kernel
theorem dL_law_738 : decode cL_law 738 = .ok (.iconst 2, 1) := by decide +kernel
theorem dL_law_739 : decode cL_law 739 = .ok (.iadd, 1) := by decide +kernel
theorem dL_law_740 : decode cL_law 740 = .ok (.iaload, 1) := by decide +kernel
theorem dL_law_741 : decode cL_law 741 = .ok (.invokevirtual 77, 3) := by decide +kernel
theorem dL_law_744 : decode cL_law 744 = .ok (.if_icmp .eq 1113, 3) := by decide +kernel
theorem dL_law_747 : decode cL_law 747 = .ok (.iconst 0, 1) := by decide +kernel
theorem dL_law_748 : decode cL_law 748 = .ok (.ireturn, 1) := by decide +kernel
theorem dL_law_749 : decode cL_law 749 = .ok (.aload_n 1, 1) := by decide +kernel
theorem dL_law_750 : decode cL_law 750 = .ok (.aload_n 0, 1) := by decide +kernel
theorem dL_law_751 : decode cL_law 751 = .ok (.iload 4, 2) := by decide +kernel
theorem dL_law_753 : decode cL_law 753 = .ok (.iconst 1, 1) := by decide +kernel
theorem dL_law_754 : decode cL_law 754 = .ok (.iadd, 1) := by decide +kernel
theorem dL_law_755 : decode cL_law 755 = .ok (.iaload, 1) := by decide +kernel
theorem dL_law_756 : decode cL_law 756 = .ok (.aload_n 0, 1) := by decide +kernel
theorem dL_law_757 : decode cL_law 757 = .ok (.iload 4, 2) := by decide +kernel
theorem dL_law_759 : decode cL_law 759 = .ok (.iconst 2, 1) := by decide +kernel
theorem dL_law_760 : decode cL_law 760 = .ok (.iadd, 1) := by decide +kernel
theorem dL_law_761 : decode cL_law 761 = .ok (.iaload, 1) := by decide +kernel
theorem dL_law_762 : decode cL_law 762 = .ok (.invokevirtual 78, 3) := by decide +kernel
theorem dL_law_765 : decode cL_law 765 = .ok (.aload_n 2, 1) := by decide +kernel
theorem dL_law_766 : decode cL_law 766 = .ok (.aload_n 0, 1) := by decide +kernel
theorem dL_law_767 : decode cL_law 767 = .ok (.iload 4, 2) := by decide +kernel
theorem dL_law_769 : decode cL_law 769 = .ok (.iconst 1, 1) := by decide +kernel
theorem dL_law_770 : decode cL_law 770 = .ok (.iadd, 1) := by decide +kernel
theorem dL_law_771 : decode cL_law 771 = .ok (.iaload, 1) := by decide +kernel
theorem dL_law_772 : decode cL_law 772 = .ok (.aload_n 0, 1) := by decide +kernel
theorem dL_law_773 : decode cL_law 773 = .ok (.iload 4, 2) := by decide +kernel
theorem dL_law_775 : decode cL_law 775 = .ok (.iconst 2, 1) := by decide +kernel
theorem dL_law_776 : decode cL_law 776 = .ok (.iadd, 1) := by decide +kernel
theorem dL_law_777 : decode cL_law 777 = .ok (.iaload, 1) := by decide +kernel
theorem dL_law_778 : decode cL_law 778 = .ok (.invokevirtual 81, 3) := by decide +kernel
theorem dL_law_781 : decode cL_law 781 = .ok (.if_icmp .eq 1076, 3) := by decide +kernel
theorem dL_law_784 : decode cL_law 784 = .ok (.iconst 0, 1) := by decide +kernel
theorem dL_law_785 : decode cL_law 785 = .ok (.ireturn, 1) := by decide +kernel
theorem dL_law_786 : decode cL_law 786 = .ok (.aload_n 1, 1) := by decide +kernel
theorem dL_law_787 : decode cL_law 787 = .ok (.aload_n 0, 1) := by decide +kernel
theorem dL_law_788 : decode cL_law 788 = .ok (.iload 4, 2) := by decide +kernel
theorem dL_law_790 : decode cL_law 790 = .ok (.iconst 1, 1) := by decide +kernel
theorem dL_law_791 : decode cL_law 791 = .ok (.iadd, 1) := by decide +kernel
theorem dL_law_792 : decode cL_law 792 = .ok (.iaload, 1) := by decide +kernel
theorem dL_law_793 : decode cL_law 793 = .ok (.aload_n 0, 1) := by decide +kernel
theorem dL_law_794 : decode cL_law 794 = .ok (.iload 4, 2) := by decide +kernel
theorem dL_law_796 : decode cL_law 796 = .ok (.iconst 2, 1) := by decide +kernel
theorem dL_law_797 : decode cL_law 797 = .ok (.iadd, 1) := by decide +kernel
theorem dL_law_798 : decode cL_law 798 = .ok (.iaload, 1) := by decide +kernel
theorem dL_law_799 : decode cL_law 799 = .ok (.invokevirtual 82, 3) := by decide +kernel
theorem dL_law_802 : decode cL_law 802 = .ok (.aload_n 2, 1) := by decide +kernel
theorem dL_law_803 : decode cL_law 803 = .ok (.aload_n 0, 1) := by decide +kernel
theorem dL_law_804 : decode cL_law 804 = .ok (.iload 4, 2) := by decide +kernel
theorem dL_law_806 : decode cL_law 806 = .ok (.iconst 1, 1) := by decide +kernel
theorem dL_law_807 : decode cL_law 807 = .ok (.iadd, 1) := by decide +kernel
theorem dL_law_808 : decode cL_law 808 = .ok (.iaload, 1) := by decide +kernel
theorem dL_law_809 : decode cL_law 809 = .ok (.aload_n 0, 1) := by decide +kernel
theorem dL_law_810 : decode cL_law 810 = .ok (.iload 4, 2) := by decide +kernel
theorem dL_law_812 : decode cL_law 812 = .ok (.iconst 2, 1) := by decide +kernel
theorem dL_law_813 : decode cL_law 813 = .ok (.iadd, 1) := by decide +kernel
theorem dL_law_814 : decode cL_law 814 = .ok (.iaload, 1) := by decide +kernel
theorem dL_law_815 : decode cL_law 815 = .ok (.invokevirtual 86, 3) := by decide +kernel
theorem dL_law_818 : decode cL_law 818 = .ok (.if_icmp .eq 1039, 3) := by decide +kernel
theorem dL_law_821 : decode cL_law 821 = .ok (.iconst 0, 1) := by decide +kernel
theorem dL_law_822 : decode cL_law 822 = .ok (.ireturn, 1) := by decide +kernel
theorem dL_law_823 : decode cL_law 823 = .ok (.aload_n 1, 1) := by decide +kernel
theorem dL_law_824 : decode cL_law 824 = .ok (.aload_n 0, 1) := by decide +kernel
theorem dL_law_825 : decode cL_law 825 = .ok (.iload 4, 2) := by decide +kernel
theorem dL_law_827 : decode cL_law 827 = .ok (.iconst 1, 1) := by decide +kernel
theorem dL_law_828 : decode cL_law 828 = .ok (.iadd, 1) := by decide +kernel
theorem dL_law_829 : decode cL_law 829 = .ok (.iaload, 1) := by decide +kernel
theorem dL_law_830 : decode cL_law 830 = .ok (.aload_n 0, 1) := by decide +kernel
theorem dL_law_831 : decode cL_law 831 = .ok (.iload 4, 2) := by decide +kernel
theorem dL_law_833 : decode cL_law 833 = .ok (.iconst 2, 1) := by decide +kernel
theorem dL_law_834 : decode cL_law 834 = .ok (.iadd, 1) := by decide +kernel
theorem dL_law_835 : decode cL_law 835 = .ok (.iaload, 1) := by decide +kernel
theorem dL_law_836 : decode cL_law 836 = .ok (.invokevirtual 87, 3) := by decide +kernel
theorem dL_law_839 : decode cL_law 839 = .ok (.aload_n 2, 1) := by decide +kernel
theorem dL_law_840 : decode cL_law 840 = .ok (.aload_n 0, 1) := by decide +kernel
theorem dL_law_841 : decode cL_law 841 = .ok (.iload 4, 2) := by decide +kernel
theorem dL_law_843 : decode cL_law 843 = .ok (.iconst 1, 1) := by decide +kernel
theorem dL_law_844 : decode cL_law 844 = .ok (.iadd, 1) := by decide +kernel
theorem dL_law_845 : decode cL_law 845 = .ok (.iaload, 1) := by decide +kernel
theorem dL_law_846 : decode cL_law 846 = .ok (.aload_n 0, 1) := by decide +kernel
theorem dL_law_847 : decode cL_law 847 = .ok (.iload 4, 2) := by decide +kernel
theorem dL_law_849 : decode cL_law 849 = .ok (.iconst 2, 1) := by decide +kernel
theorem dL_law_850 : decode cL_law 850 = .ok (.iadd, 1) := by decide +kernel
theorem dL_law_851 : decode cL_law 851 = .ok (.iaload, 1) := by decide +kernel
theorem dL_law_852 : decode cL_law 852 = .ok (.invokevirtual 90, 3) := by decide +kernel
theorem dL_law_855 : decode cL_law 855 = .ok (.if_icmp .eq 1002, 3) := by decide +kernel
theorem dL_law_858 : decode cL_law 858 = .ok (.iconst 0, 1) := by decide +kernel
theorem dL_law_859 : decode cL_law 859 = .ok (.ireturn, 1) := by decide +kernel
theorem dL_law_860 : decode cL_law 860 = .ok (.aload_n 1, 1) := by decide +kernel
theorem dL_law_861 : decode cL_law 861 = .ok (.aload_n 0, 1) := by decide +kernel
theorem dL_law_862 : decode cL_law 862 = .ok (.iload 4, 2) := by decide +kernel
theorem dL_law_864 : decode cL_law 864 = .ok (.iconst 1, 1) := by decide +kernel
theorem dL_law_865 : decode cL_law 865 = .ok (.iadd, 1) := by decide +kernel
theorem dL_law_866 : decode cL_law 866 = .ok (.iaload, 1) := by decide +kernel
theorem dL_law_867 : decode cL_law 867 = .ok (.aload_n 0, 1) := by decide +kernel
theorem dL_law_868 : decode cL_law 868 = .ok (.iload 4, 2) := by decide +kernel
theorem dL_law_870 : decode cL_law 870 = .ok (.iconst 2, 1) := by decide +kernel
theorem dL_law_871 : decode cL_law 871 = .ok (.iadd, 1) := by decide +kernel
theorem dL_law_872 : decode cL_law 872 = .ok (.iaload, 1) := by decide +kernel
theorem dL_law_873 : decode cL_law 873 = .ok (.aload_n 0, 1) := by decide +kernel
theorem dL_law_874 : decode cL_law 874 = .ok (.iload 4, 2) := by decide +kernel
theorem dL_law_876 : decode cL_law 876 = .ok (.iconst 3, 1) := by decide +kernel
theorem dL_law_877 : decode cL_law 877 = .ok (.iadd, 1) := by decide +kernel
theorem dL_law_878 : decode cL_law 878 = .ok (.iaload, 1) := by decide +kernel
theorem dL_law_879 : decode cL_law 879 = .ok (.invokevirtual 91, 3) := by decide +kernel
theorem dL_law_882 : decode cL_law 882 = .ok (.aload_n 2, 1) := by decide +kernel
theorem dL_law_883 : decode cL_law 883 = .ok (.aload_n 0, 1) := by decide +kernel
theorem dL_law_884 : decode cL_law 884 = .ok (.iload 4, 2) := by decide +kernel
theorem dL_law_886 : decode cL_law 886 = .ok (.iconst 1, 1) := by decide +kernel
theorem dL_law_887 : decode cL_law 887 = .ok (.iadd, 1) := by decide +kernel
theorem dL_law_888 : decode cL_law 888 = .ok (.iaload, 1) := by decide +kernel
theorem dL_law_889 : decode cL_law 889 = .ok (.aload_n 0, 1) := by decide +kernel
theorem dL_law_890 : decode cL_law 890 = .ok (.iload 4, 2) := by decide +kernel
theorem dL_law_892 : decode cL_law 892 = .ok (.iconst 2, 1) := by decide +kernel
theorem dL_law_893 : decode cL_law 893 = .ok (.iadd, 1) := by decide +kernel
theorem dL_law_894 : decode cL_law 894 = .ok (.iaload, 1) := by decide +kernel
theorem dL_law_895 : decode cL_law 895 = .ok (.aload_n 0, 1) := by decide +kernel
theorem dL_law_896 : decode cL_law 896 = .ok (.iload 4, 2) := by decide +kernel
theorem dL_law_898 : decode cL_law 898 = .ok (.iconst 3, 1) := by decide +kernel
theorem dL_law_899 : decode cL_law 899 = .ok (.iadd, 1) := by decide +kernel
theorem dL_law_900 : decode cL_law 900 = .ok (.iaload, 1) := by decide +kernel
theorem dL_law_901 : decode cL_law 901 = .ok (.invokevirtual 94, 3) := by decide +kernel
theorem dL_law_904 : decode cL_law 904 = .ok (.if_icmp .eq 953, 3) := by decide +kernel
theorem dL_law_907 : decode cL_law 907 = .ok (.iconst 0, 1) := by decide +kernel
theorem dL_law_908 : decode cL_law 908 = .ok (.ireturn, 1) := by decide +kernel
theorem dL_law_909 : decode cL_law 909 = .ok (.aload_n 1, 1) := by decide +kernel
theorem dL_law_910 : decode cL_law 910 = .ok (.aload_n 0, 1) := by decide +kernel
theorem dL_law_911 : decode cL_law 911 = .ok (.iload 4, 2) := by decide +kernel
theorem dL_law_913 : decode cL_law 913 = .ok (.iconst 1, 1) := by decide +kernel
theorem dL_law_914 : decode cL_law 914 = .ok (.iadd, 1) := by decide +kernel
theorem dL_law_915 : decode cL_law 915 = .ok (.iaload, 1) := by decide +kernel
theorem dL_law_916 : decode cL_law 916 = .ok (.aload_n 0, 1) := by decide +kernel
theorem dL_law_917 : decode cL_law 917 = .ok (.iload 4, 2) := by decide +kernel
theorem dL_law_919 : decode cL_law 919 = .ok (.iconst 2, 1) := by decide +kernel
theorem dL_law_920 : decode cL_law 920 = .ok (.iadd, 1) := by decide +kernel
theorem dL_law_921 : decode cL_law 921 = .ok (.iaload, 1) := by decide +kernel
theorem dL_law_922 : decode cL_law 922 = .ok (.aload_n 0, 1) := by decide +kernel
theorem dL_law_923 : decode cL_law 923 = .ok (.iload 4, 2) := by decide +kernel
theorem dL_law_925 : decode cL_law 925 = .ok (.iconst 3, 1) := by decide +kernel
theorem dL_law_926 : decode cL_law 926 = .ok (.iadd, 1) := by decide +kernel
theorem dL_law_927 : decode cL_law 927 = .ok (.iaload, 1) := by decide +kernel
theorem dL_law_928 : decode cL_law 928 = .ok (.aload_n 0, 1) := by decide +kernel
theorem dL_law_929 : decode cL_law 929 = .ok (.iload 4, 2) := by decide +kernel
theorem dL_law_931 : decode cL_law 931 = .ok (.iconst 4, 1) := by decide +kernel
theorem dL_law_932 : decode cL_law 932 = .ok (.iadd, 1) := by decide +kernel
theorem dL_law_933 : decode cL_law 933 = .ok (.iaload, 1) := by decide +kernel
theorem dL_law_934 : decode cL_law 934 = .ok (.invokevirtual 95, 3) := by decide +kernel
theorem dL_law_937 : decode cL_law 937 = .ok (.aload_n 2, 1) := by decide +kernel
theorem dL_law_938 : decode cL_law 938 = .ok (.aload_n 0, 1) := by decide +kernel
theorem dL_law_939 : decode cL_law 939 = .ok (.iload 4, 2) := by decide +kernel
theorem dL_law_941 : decode cL_law 941 = .ok (.iconst 1, 1) := by decide +kernel
theorem dL_law_942 : decode cL_law 942 = .ok (.iadd, 1) := by decide +kernel
theorem dL_law_943 : decode cL_law 943 = .ok (.iaload, 1) := by decide +kernel
theorem dL_law_944 : decode cL_law 944 = .ok (.aload_n 0, 1) := by decide +kernel
theorem dL_law_945 : decode cL_law 945 = .ok (.iload 4, 2) := by decide +kernel
theorem dL_law_947 : decode cL_law 947 = .ok (.iconst 2, 1) := by decide +kernel
theorem dL_law_948 : decode cL_law 948 = .ok (.iadd, 1) := by decide +kernel
theorem dL_law_949 : decode cL_law 949 = .ok (.iaload, 1) := by decide +kernel
theorem dL_law_950 : decode cL_law 950 = .ok (.aload_n 0, 1) := by decide +kernel
theorem dL_law_951 : decode cL_law 951 = .ok (.iload 4, 2) := by decide +kernel
theorem dL_law_953 : decode cL_law 953 = .ok (.iconst 3, 1) := by decide +kernel
theorem dL_law_954 : decode cL_law 954 = .ok (.iadd, 1) := by decide +kernel
theorem dL_law_955 : decode cL_law 955 = .ok (.iaload, 1) := by decide +kernel
theorem dL_law_956 : decode cL_law 956 = .ok (.aload_n 0, 1) := by decide +kernel
theorem dL_law_957 : decode cL_law 957 = .ok (.iload 4, 2) := by decide +kernel
theorem dL_law_959 : decode cL_law 959 = .ok (.iconst 4, 1) := by decide +kernel
theorem dL_law_960 : decode cL_law 960 = .ok (.iadd, 1) := by decide +kernel
theorem dL_law_961 : decode cL_law 961 = .ok (.iaload, 1) := by decide +kernel
theorem dL_law_962 : decode cL_law 962 = .ok (.invokevirtual 99, 3) := by decide +kernel
theorem dL_law_965 : decode cL_law 965 = .ok (.if_icmp .eq 892, 3) := by decide +kernel
theorem dL_law_968 : decode cL_law 968 = .ok (.iconst 0, 1) := by decide +kernel
theorem dL_law_969 : decode cL_law 969 = .ok (.ireturn, 1) := by decide +kernel
theorem dL_law_970 : decode cL_law 970 = .ok (.aload_n 1, 1) := by decide +kernel
theorem dL_law_971 : decode cL_law 971 = .ok (.aload_n 0, 1) := by decide +kernel
theorem dL_law_972 : decode cL_law 972 = .ok (.iload 4, 2) := by decide +kernel
theorem dL_law_974 : decode cL_law 974 = .ok (.iconst 1, 1) := by decide +kernel
theorem dL_law_975 : decode cL_law 975 = .ok (.iadd, 1) := by decide +kernel
theorem dL_law_976 : decode cL_law 976 = .ok (.iaload, 1) := by decide +kernel
theorem dL_law_977 : decode cL_law 977 = .ok (.aload_n 0, 1) := by decide +kernel
theorem dL_law_978 : decode cL_law 978 = .ok (.iload 4, 2) := by decide +kernel
theorem dL_law_980 : decode cL_law 980 = .ok (.iconst 2, 1) := by decide +kernel
theorem dL_law_981 : decode cL_law 981 = .ok (.iadd, 1) := by decide +kernel
theorem dL_law_982 : decode cL_law 982 = .ok (.iaload, 1) := by decide +kernel
theorem dL_law_983 : decode cL_law 983 = .ok (.invokevirtual 100, 3) := by decide +kernel
theorem dL_law_986 : decode cL_law 986 = .ok (.aload_n 2, 1) := by decide +kernel
theorem dL_law_987 : decode cL_law 987 = .ok (.aload_n 0, 1) := by decide +kernel
theorem dL_law_988 : decode cL_law 988 = .ok (.iload 4, 2) := by decide +kernel
theorem dL_law_990 : decode cL_law 990 = .ok (.iconst 1, 1) := by decide +kernel
theorem dL_law_991 : decode cL_law 991 = .ok (.iadd, 1) := by decide +kernel
theorem dL_law_992 : decode cL_law 992 = .ok (.iaload, 1) := by decide +kernel
theorem dL_law_993 : decode cL_law 993 = .ok (.aload_n 0, 1) := by decide +kernel
theorem dL_law_994 : decode cL_law 994 = .ok (.iload 4, 2) := by decide +kernel
theorem dL_law_996 : decode cL_law 996 = .ok (.iconst 2, 1) := by decide +kernel
theorem dL_law_997 : decode cL_law 997 = .ok (.iadd, 1) := by decide +kernel
theorem dL_law_998 : decode cL_law 998 = .ok (.iaload, 1) := by decide +kernel
theorem dL_law_999 : decode cL_law 999 = .ok (.invokevirtual 103, 3) := by decide +kernel
theorem dL_law_1002 : decode cL_law 1002 = .ok (.if_icmp .eq 855, 3) := by decide +kernel
theorem dL_law_1005 : decode cL_law 1005 = .ok (.iconst 0, 1) := by decide +kernel
theorem dL_law_1006 : decode cL_law 1006 = .ok (.ireturn, 1) := by decide +kernel
theorem dL_law_1007 : decode cL_law 1007 = .ok (.aload_n 1, 1) := by decide +kernel
theorem dL_law_1008 : decode cL_law 1008 = .ok (.aload_n 0, 1) := by decide +kernel
theorem dL_law_1009 : decode cL_law 1009 = .ok (.iload 4, 2) := by decide +kernel
theorem dL_law_1011 : decode cL_law 1011 = .ok (.iconst 1, 1) := by decide +kernel
theorem dL_law_1012 : decode cL_law 1012 = .ok (.iadd, 1) := by decide +kernel
theorem dL_law_1013 : decode cL_law 1013 = .ok (.iaload, 1) := by decide +kernel
theorem dL_law_1014 : decode cL_law 1014 = .ok (.aload_n 0, 1) := by decide +kernel
theorem dL_law_1015 : decode cL_law 1015 = .ok (.iload 4, 2) := by decide +kernel
theorem dL_law_1017 : decode cL_law 1017 = .ok (.iconst 2, 1) := by decide +kernel
theorem dL_law_1018 : decode cL_law 1018 = .ok (.iadd, 1) := by decide +kernel
theorem dL_law_1019 : decode cL_law 1019 = .ok (.iaload, 1) := by decide +kernel
theorem dL_law_1020 : decode cL_law 1020 = .ok (.aload_n 0, 1) := by decide +kernel
theorem dL_law_1021 : decode cL_law 1021 = .ok (.iload 4, 2) := by decide +kernel
theorem dL_law_1023 : decode cL_law 1023 = .ok (.iconst 3, 1) := by decide +kernel
theorem dL_law_1024 : decode cL_law 1024 = .ok (.iadd, 1) := by decide +kernel
theorem dL_law_1025 : decode cL_law 1025 = .ok (.iaload, 1) := by decide +kernel
theorem dL_law_1026 : decode cL_law 1026 = .ok (.aload_n 0, 1) := by decide +kernel
theorem dL_law_1027 : decode cL_law 1027 = .ok (.iload 4, 2) := by decide +kernel
theorem dL_law_1029 : decode cL_law 1029 = .ok (.iconst 4, 1) := by decide +kernel
theorem dL_law_1030 : decode cL_law 1030 = .ok (.iadd, 1) := by decide +kernel
theorem dL_law_1031 : decode cL_law 1031 = .ok (.iaload, 1) := by decide +kernel
theorem dL_law_1032 : decode cL_law 1032 = .ok (.aload_n 0, 1) := by decide +kernel
theorem dL_law_1033 : decode cL_law 1033 = .ok (.iload 4, 2) := by decide +kernel
theorem dL_law_1035 : decode cL_law 1035 = .ok (.iconst 5, 1) := by decide +kernel
theorem dL_law_1036 : decode cL_law 1036 = .ok (.iadd, 1) := by decide +kernel
theorem dL_law_1037 : decode cL_law 1037 = .ok (.iaload, 1) := by decide +kernel
theorem dL_law_1038 : decode cL_law 1038 = .ok (.invokevirtual 104, 3) := by decide +kernel
theorem dL_law_1041 : decode cL_law 1041 = .ok (.aload_n 2, 1) := by decide +kernel
theorem dL_law_1042 : decode cL_law 1042 = .ok (.aload_n 0, 1) := by decide +kernel
theorem dL_law_1043 : decode cL_law 1043 = .ok (.iload 4, 2) := by decide +kernel
theorem dL_law_1045 : decode cL_law 1045 = .ok (.iconst 1, 1) := by decide +kernel
theorem dL_law_1046 : decode cL_law 1046 = .ok (.iadd, 1) := by decide +kernel
theorem dL_law_1047 : decode cL_law 1047 = .ok (.iaload, 1) := by decide +kernel
theorem dL_law_1048 : decode cL_law 1048 = .ok (.aload_n 0, 1) := by decide +kernel
theorem dL_law_1049 : decode cL_law 1049 = .ok (.iload 4, 2) := by decide +kernel
theorem dL_law_1051 : decode cL_law 1051 = .ok (.iconst 2, 1) := by decide +kernel
theorem dL_law_1052 : decode cL_law 1052 = .ok (.iadd, 1) := by decide +kernel
theorem dL_law_1053 : decode cL_law 1053 = .ok (.iaload, 1) := by decide +kernel
theorem dL_law_1054 : decode cL_law 1054 = .ok (.aload_n 0, 1) := by decide +kernel
theorem dL_law_1055 : decode cL_law 1055 = .ok (.iload 4, 2) := by decide +kernel
theorem dL_law_1057 : decode cL_law 1057 = .ok (.iconst 3, 1) := by decide +kernel
theorem dL_law_1058 : decode cL_law 1058 = .ok (.iadd, 1) := by decide +kernel
theorem dL_law_1059 : decode cL_law 1059 = .ok (.iaload, 1) := by decide +kernel
theorem dL_law_1060 : decode cL_law 1060 = .ok (.aload_n 0, 1) := by decide +kernel
theorem dL_law_1061 : decode cL_law 1061 = .ok (.iload 4, 2) := by decide +kernel
theorem dL_law_1063 : decode cL_law 1063 = .ok (.iconst 4, 1) := by decide +kernel
theorem dL_law_1064 : decode cL_law 1064 = .ok (.iadd, 1) := by decide +kernel
theorem dL_law_1065 : decode cL_law 1065 = .ok (.iaload, 1) := by decide +kernel
theorem dL_law_1066 : decode cL_law 1066 = .ok (.aload_n 0, 1) := by decide +kernel
theorem dL_law_1067 : decode cL_law 1067 = .ok (.iload 4, 2) := by decide +kernel
theorem dL_law_1069 : decode cL_law 1069 = .ok (.iconst 5, 1) := by decide +kernel
theorem dL_law_1070 : decode cL_law 1070 = .ok (.iadd, 1) := by decide +kernel
theorem dL_law_1071 : decode cL_law 1071 = .ok (.iaload, 1) := by decide +kernel
theorem dL_law_1072 : decode cL_law 1072 = .ok (.invokevirtual 107, 3) := by decide +kernel
theorem dL_law_1075 : decode cL_law 1075 = .ok (.if_icmp .eq 782, 3) := by decide +kernel
theorem dL_law_1078 : decode cL_law 1078 = .ok (.iconst 0, 1) := by decide +kernel
theorem dL_law_1079 : decode cL_law 1079 = .ok (.ireturn, 1) := by decide +kernel
theorem dL_law_1080 : decode cL_law 1080 = .ok (.aload_n 1, 1) := by decide +kernel
theorem dL_law_1081 : decode cL_law 1081 = .ok (.aload_n 0, 1) := by decide +kernel
theorem dL_law_1082 : decode cL_law 1082 = .ok (.iload 4, 2) := by decide +kernel
theorem dL_law_1084 : decode cL_law 1084 = .ok (.iconst 1, 1) := by decide +kernel
theorem dL_law_1085 : decode cL_law 1085 = .ok (.iadd, 1) := by decide +kernel
theorem dL_law_1086 : decode cL_law 1086 = .ok (.iaload, 1) := by decide +kernel
theorem dL_law_1087 : decode cL_law 1087 = .ok (.aload_n 0, 1) := by decide +kernel
theorem dL_law_1088 : decode cL_law 1088 = .ok (.iload 4, 2) := by decide +kernel
theorem dL_law_1090 : decode cL_law 1090 = .ok (.iconst 2, 1) := by decide +kernel
theorem dL_law_1091 : decode cL_law 1091 = .ok (.iadd, 1) := by decide +kernel
theorem dL_law_1092 : decode cL_law 1092 = .ok (.iaload, 1) := by decide +kernel
theorem dL_law_1093 : decode cL_law 1093 = .ok (.aload_n 0, 1) := by decide +kernel
theorem dL_law_1094 : decode cL_law 1094 = .ok (.iload 4, 2) := by decide +kernel
theorem dL_law_1096 : decode cL_law 1096 = .ok (.iconst 3, 1) := by decide +kernel
theorem dL_law_1097 : decode cL_law 1097 = .ok (.iadd, 1) := by decide +kernel
theorem dL_law_1098 : decode cL_law 1098 = .ok (.iaload, 1) := by decide +kernel
theorem dL_law_1099 : decode cL_law 1099 = .ok (.aload_n 0, 1) := by decide +kernel
theorem dL_law_1100 : decode cL_law 1100 = .ok (.iload 4, 2) := by decide +kernel
theorem dL_law_1102 : decode cL_law 1102 = .ok (.iconst 4, 1) := by decide +kernel
theorem dL_law_1103 : decode cL_law 1103 = .ok (.iadd, 1) := by decide +kernel
theorem dL_law_1104 : decode cL_law 1104 = .ok (.iaload, 1) := by decide +kernel
theorem dL_law_1105 : decode cL_law 1105 = .ok (.invokevirtual 108, 3) := by decide +kernel
theorem dL_law_1108 : decode cL_law 1108 = .ok (.aload_n 2, 1) := by decide +kernel
theorem dL_law_1109 : decode cL_law 1109 = .ok (.aload_n 0, 1) := by decide +kernel
theorem dL_law_1110 : decode cL_law 1110 = .ok (.iload 4, 2) := by decide +kernel
theorem dL_law_1112 : decode cL_law 1112 = .ok (.iconst 1, 1) := by decide +kernel
theorem dL_law_1113 : decode cL_law 1113 = .ok (.iadd, 1) := by decide +kernel
theorem dL_law_1114 : decode cL_law 1114 = .ok (.iaload, 1) := by decide +kernel
theorem dL_law_1115 : decode cL_law 1115 = .ok (.aload_n 0, 1) := by decide +kernel
theorem dL_law_1116 : decode cL_law 1116 = .ok (.iload 4, 2) := by decide +kernel
theorem dL_law_1118 : decode cL_law 1118 = .ok (.iconst 2, 1) := by decide +kernel
theorem dL_law_1119 : decode cL_law 1119 = .ok (.iadd, 1) := by decide +kernel
theorem dL_law_1120 : decode cL_law 1120 = .ok (.iaload, 1) := by decide +kernel
theorem dL_law_1121 : decode cL_law 1121 = .ok (.aload_n 0, 1) := by decide +kernel
theorem dL_law_1122 : decode cL_law 1122 = .ok (.iload 4, 2) := by decide +kernel
theorem dL_law_1124 : decode cL_law 1124 = .ok (.iconst 3, 1) := by decide +kernel
theorem dL_law_1125 : decode cL_law 1125 = .ok (.iadd, 1) := by decide +kernel
theorem dL_law_1126 : decode cL_law 1126 = .ok (.iaload, 1) := by decide +kernel
theorem dL_law_1127 : decode cL_law 1127 = .ok (.aload_n 0, 1) := by decide +kernel
theorem dL_law_1128 : decode cL_law 1128 = .ok (.iload 4, 2) := by decide +kernel
theorem dL_law_1130 : decode cL_law 1130 = .ok (.iconst 4, 1) := by decide +kernel
theorem dL_law_1131 : decode cL_law 1131 = .ok (.iadd, 1) := by decide +kernel
theorem dL_law_1132 : decode cL_law 1132 = .ok (.iaload, 1) := by decide +kernel
theorem dL_law_1133 : decode cL_law 1133 = .ok (.invokevirtual 111, 3) := by decide +kernel
theorem dL_law_1136 : decode cL_law 1136 = .ok (.if_icmp .eq 721, 3) := by decide +kernel
theorem dL_law_1139 : decode cL_law 1139 = .ok (.iconst 0, 1) := by decide +kernel
theorem dL_law_1140 : decode cL_law 1140 = .ok (.ireturn, 1) := by decide +kernel
theorem dL_law_1141 : decode cL_law 1141 = .ok (.aload_n 1, 1) := by decide +kernel
theorem dL_law_1142 : decode cL_law 1142 = .ok (.aload_n 0, 1) := by decide +kernel
theorem dL_law_1143 : decode cL_law 1143 = .ok (.iload 4, 2) := by decide +kernel
theorem dL_law_1145 : decode cL_law 1145 = .ok (.iconst 1, 1) := by decide +kernel
theorem dL_law_1146 : decode cL_law 1146 = .ok (.iadd, 1) := by decide +kernel
theorem dL_law_1147 : decode cL_law 1147 = .ok (.iaload, 1) := by decide +kernel
theorem dL_law_1148 : decode cL_law 1148 = .ok (.invokevirtual 112, 3) := by decide +kernel
theorem dL_law_1151 : decode cL_law 1151 = .ok (.aload_n 2, 1) := by decide +kernel
theorem dL_law_1152 : decode cL_law 1152 = .ok (.aload_n 0, 1) := by decide +kernel
theorem dL_law_1153 : decode cL_law 1153 = .ok (.iload 4, 2) := by decide +kernel
theorem dL_law_1155 : decode cL_law 1155 = .ok (.iconst 1, 1) := by decide +kernel
theorem dL_law_1156 : decode cL_law 1156 = .ok (.iadd, 1) := by decide +kernel
theorem dL_law_1157 : decode cL_law 1157 = .ok (.iaload, 1) := by decide +kernel
theorem dL_law_1158 : decode cL_law 1158 = .ok (.invokevirtual 115, 3) := by decide +kernel
theorem dL_law_1161 : decode cL_law 1161 = .ok (.if_icmp .eq 696, 3) := by decide +kernel
theorem dL_law_1164 : decode cL_law 1164 = .ok (.iconst 0, 1) := by decide +kernel
theorem dL_law_1165 : decode cL_law 1165 = .ok (.ireturn, 1) := by decide +kernel
theorem dL_law_1166 : decode cL_law 1166 = .ok (.aload_n 1, 1) := by decide +kernel
theorem dL_law_1167 : decode cL_law 1167 = .ok (.aload_n 0, 1) := by decide +kernel
theorem dL_law_1168 : decode cL_law 1168 = .ok (.iload 4, 2) := by decide +kernel
theorem dL_law_1170 : decode cL_law 1170 = .ok (.iconst 1, 1) := by decide +kernel
theorem dL_law_1171 : decode cL_law 1171 = .ok (.iadd, 1) := by decide +kernel
theorem dL_law_1172 : decode cL_law 1172 = .ok (.iaload, 1) := by decide +kernel
theorem dL_law_1173 : decode cL_law 1173 = .ok (.aload_n 0, 1) := by decide +kernel
theorem dL_law_1174 : decode cL_law 1174 = .ok (.iload 4, 2) := by decide +kernel
theorem dL_law_1176 : decode cL_law 1176 = .ok (.iconst 2, 1) := by decide +kernel
theorem dL_law_1177 : decode cL_law 1177 = .ok (.iadd, 1) := by decide +kernel
theorem dL_law_1178 : decode cL_law 1178 = .ok (.iaload, 1) := by decide +kernel
theorem dL_law_1179 : decode cL_law 1179 = .ok (.invokevirtual 116, 3) := by decide +kernel
theorem dL_law_1182 : decode cL_law 1182 = .ok (.aload_n 2, 1) := by decide +kernel
theorem dL_law_1183 : decode cL_law 1183 = .ok (.aload_n 0, 1) := by decide +kernel
theorem dL_law_1184 : decode cL_law 1184 = .ok (.iload 4, 2) := by decide +kernel
theorem dL_law_1186 : decode cL_law 1186 = .ok (.iconst 1, 1) := by decide +kernel
theorem dL_law_1187 : decode cL_law 1187 = .ok (.iadd, 1) := by decide +kernel
theorem dL_law_1188 : decode cL_law 1188 = .ok (.iaload, 1) := by decide +kernel
theorem dL_law_1189 : decode cL_law 1189 = .ok (.aload_n 0, 1) := by decide +kernel
theorem dL_law_1190 : decode cL_law 1190 = .ok (.iload 4, 2) := by decide +kernel
theorem dL_law_1192 : decode cL_law 1192 = .ok (.iconst 2, 1) := by decide +kernel
theorem dL_law_1193 : decode cL_law 1193 = .ok (.iadd, 1) := by decide +kernel
theorem dL_law_1194 : decode cL_law 1194 = .ok (.iaload, 1) := by decide +kernel
theorem dL_law_1195 : decode cL_law 1195 = .ok (.invokevirtual 119, 3) := by decide +kernel
theorem dL_law_1198 : decode cL_law 1198 = .ok (.if_icmp .eq 659, 3) := by decide +kernel
theorem dL_law_1201 : decode cL_law 1201 = .ok (.iconst 0, 1) := by decide +kernel
theorem dL_law_1202 : decode cL_law 1202 = .ok (.ireturn, 1) := by decide +kernel
theorem dL_law_1203 : decode cL_law 1203 = .ok (.aload_n 1, 1) := by decide +kernel
theorem dL_law_1204 : decode cL_law 1204 = .ok (.aload_n 0, 1) := by decide +kernel
theorem dL_law_1205 : decode cL_law 1205 = .ok (.iload 4, 2) := by decide +kernel
theorem dL_law_1207 : decode cL_law 1207 = .ok (.iconst 1, 1) := by decide +kernel
theorem dL_law_1208 : decode cL_law 1208 = .ok (.iadd, 1) := by decide +kernel
theorem dL_law_1209 : decode cL_law 1209 = .ok (.iaload, 1) := by decide +kernel
theorem dL_law_1210 : decode cL_law 1210 = .ok (.aload_n 0, 1) := by decide +kernel
theorem dL_law_1211 : decode cL_law 1211 = .ok (.iload 4, 2) := by decide +kernel
theorem dL_law_1213 : decode cL_law 1213 = .ok (.iconst 2, 1) := by decide +kernel
theorem dL_law_1214 : decode cL_law 1214 = .ok (.iadd, 1) := by decide +kernel
theorem dL_law_1215 : decode cL_law 1215 = .ok (.iaload, 1) := by decide +kernel
theorem dL_law_1216 : decode cL_law 1216 = .ok (.aload_n 0, 1) := by decide +kernel
theorem dL_law_1217 : decode cL_law 1217 = .ok (.iload 4, 2) := by decide +kernel
theorem dL_law_1219 : decode cL_law 1219 = .ok (.iconst 3, 1) := by decide +kernel
theorem dL_law_1220 : decode cL_law 1220 = .ok (.iadd, 1) := by decide +kernel
theorem dL_law_1221 : decode cL_law 1221 = .ok (.iaload, 1) := by decide +kernel
theorem dL_law_1222 : decode cL_law 1222 = .ok (.i2l, 1) := by decide +kernel
theorem dL_law_1223 : decode cL_law 1223 = .ok (.bipush 32, 2) := by decide +kernel
theorem dL_law_1225 : decode cL_law 1225 = .ok (.lshl, 1) := by decide +kernel
theorem dL_law_1226 : decode cL_law 1226 = .ok (.aload_n 0, 1) := by decide +kernel
theorem dL_law_1227 : decode cL_law 1227 = .ok (.iload 4, 2) := by decide +kernel
theorem dL_law_1229 : decode cL_law 1229 = .ok (.iconst 4, 1) := by decide +kernel
theorem dL_law_1230 : decode cL_law 1230 = .ok (.iadd, 1) := by decide +kernel
theorem dL_law_1231 : decode cL_law 1231 = .ok (.iaload, 1) := by decide +kernel
theorem dL_law_1232 : decode cL_law 1232 = .ok (.i2l, 1) := by decide +kernel
theorem dL_law_1233 : decode cL_law 1233 = .ok (.ldc2_w 120, 3) := by decide +kernel
theorem dL_law_1236 : decode cL_law 1236 = .ok (.land, 1) := by decide +kernel
theorem dL_law_1237 : decode cL_law 1237 = .ok (.lor, 1) := by decide +kernel
theorem dL_law_1238 : decode cL_law 1238 = .ok (.invokevirtual 122, 3) := by decide +kernel
theorem dL_law_1241 : decode cL_law 1241 = .ok (.aload_n 2, 1) := by decide +kernel
theorem dL_law_1242 : decode cL_law 1242 = .ok (.aload_n 0, 1) := by decide +kernel
theorem dL_law_1243 : decode cL_law 1243 = .ok (.iload 4, 2) := by decide +kernel
theorem dL_law_1245 : decode cL_law 1245 = .ok (.iconst 1, 1) := by decide +kernel
theorem dL_law_1246 : decode cL_law 1246 = .ok (.iadd, 1) := by decide +kernel
theorem dL_law_1247 : decode cL_law 1247 = .ok (.iaload, 1) := by decide +kernel
theorem dL_law_1248 : decode cL_law 1248 = .ok (.aload_n 0, 1) := by decide +kernel
theorem dL_law_1249 : decode cL_law 1249 = .ok (.iload 4, 2) := by decide +kernel
theorem dL_law_1251 : decode cL_law 1251 = .ok (.iconst 2, 1) := by decide +kernel
theorem dL_law_1252 : decode cL_law 1252 = .ok (.iadd, 1) := by decide +kernel
theorem dL_law_1253 : decode cL_law 1253 = .ok (.iaload, 1) := by decide +kernel
theorem dL_law_1254 : decode cL_law 1254 = .ok (.aload_n 0, 1) := by decide +kernel
theorem dL_law_1255 : decode cL_law 1255 = .ok (.iload 4, 2) := by decide +kernel
theorem dL_law_1257 : decode cL_law 1257 = .ok (.iconst 3, 1) := by decide +kernel
theorem dL_law_1258 : decode cL_law 1258 = .ok (.iadd, 1) := by decide +kernel
theorem dL_law_1259 : decode cL_law 1259 = .ok (.iaload, 1) := by decide +kernel
theorem dL_law_1260 : decode cL_law 1260 = .ok (.i2l, 1) := by decide +kernel
theorem dL_law_1261 : decode cL_law 1261 = .ok (.bipush 32, 2) := by decide +kernel
theorem dL_law_1263 : decode cL_law 1263 = .ok (.lshl, 1) := by decide +kernel
theorem dL_law_1264 : decode cL_law 1264 = .ok (.aload_n 0, 1) := by decide +kernel
theorem dL_law_1265 : decode cL_law 1265 = .ok (.iload 4, 2) := by decide +kernel
theorem dL_law_1267 : decode cL_law 1267 = .ok (.iconst 4, 1) := by decide +kernel
theorem dL_law_1268 : decode cL_law 1268 = .ok (.iadd, 1) := by decide +kernel
theorem dL_law_1269 : decode cL_law 1269 = .ok (.iaload, 1) := by decide +kernel
theorem dL_law_1270 : decode cL_law 1270 = .ok (.i2l, 1) := by decide +kernel
theorem dL_law_1271 : decode cL_law 1271 = .ok (.ldc2_w 120, 3) := by decide +kernel
theorem dL_law_1274 : decode cL_law 1274 = .ok (.land, 1) := by decide +kernel
theorem dL_law_1275 : decode cL_law 1275 = .ok (.lor, 1) := by decide +kernel
theorem dL_law_1276 : decode cL_law 1276 = .ok (.invokevirtual 126, 3) := by decide +kernel
theorem dL_law_1279 : decode cL_law 1279 = .ok (.if_icmp .eq 578, 3) := by decide +kernel
theorem dL_law_1282 : decode cL_law 1282 = .ok (.iconst 0, 1) := by decide +kernel
theorem dL_law_1283 : decode cL_law 1283 = .ok (.ireturn, 1) := by decide +kernel
theorem dL_law_1284 : decode cL_law 1284 = .ok (.aload_n 1, 1) := by decide +kernel
theorem dL_law_1285 : decode cL_law 1285 = .ok (.aload_n 0, 1) := by decide +kernel
theorem dL_law_1286 : decode cL_law 1286 = .ok (.iload 4, 2) := by decide +kernel
theorem dL_law_1288 : decode cL_law 1288 = .ok (.iconst 1, 1) := by decide +kernel
theorem dL_law_1289 : decode cL_law 1289 = .ok (.iadd, 1) := by decide +kernel
theorem dL_law_1290 : decode cL_law 1290 = .ok (.iaload, 1) := by decide +kernel
theorem dL_law_1291 : decode cL_law 1291 = .ok (.invokevirtual 127, 3) := by decide +kernel
theorem dL_law_1294 : decode cL_law 1294 = .ok (.aload_n 2, 1) := by decide +kernel
theorem dL_law_1295 : decode cL_law 1295 = .ok (.aload_n 0, 1) := by decide +kernel
theorem dL_law_1296 : decode cL_law 1296 = .ok (.iload 4, 2) := by decide +kernel
theorem dL_law_1298 : decode cL_law 1298 = .ok (.iconst 1, 1) := by decide +kernel
theorem dL_law_1299 : decode cL_law 1299 = .ok (.iadd, 1) := by decide +kernel
theorem dL_law_1300 : decode cL_law 1300 = .ok (.iaload, 1) := by decide +kernel
theorem dL_law_1301 : decode cL_law 1301 = .ok (.invokevirtual 130, 3) := by decide +kernel
theorem dL_law_1304 : decode cL_law 1304 = .ok (.if_icmp .eq 553, 3) := by decide +kernel
theorem dL_law_1307 : decode cL_law 1307 = .ok (.iconst 0, 1) := by decide +kernel
theorem dL_law_1308 : decode cL_law 1308 = .ok (.ireturn, 1) := by decide +kernel
theorem dL_law_1309 : decode cL_law 1309 = .ok (.aload_n 1, 1) := by decide +kernel
theorem dL_law_1310 : decode cL_law 1310 = .ok (.aload_n 0, 1) := by decide +kernel
theorem dL_law_1311 : decode cL_law 1311 = .ok (.iload 4, 2) := by decide +kernel
theorem dL_law_1313 : decode cL_law 1313 = .ok (.iconst 1, 1) := by decide +kernel
theorem dL_law_1314 : decode cL_law 1314 = .ok (.iadd, 1) := by decide +kernel
theorem dL_law_1315 : decode cL_law 1315 = .ok (.iaload, 1) := by decide +kernel
theorem dL_law_1316 : decode cL_law 1316 = .ok (.ifCond .eq 7, 3) := by decide +kernel
theorem dL_law_1319 : decode cL_law 1319 = .ok (.iconst 1, 1) := by decide +kernel
theorem dL_law_1320 : decode cL_law 1320 = .ok (.goto 4, 3) := by decide +kernel
theorem dL_law_1323 : decode cL_law 1323 = .ok (.iconst 0, 1) := by decide +kernel
theorem dL_law_1324 : decode cL_law 1324 = .ok (.invokevirtual 131, 3) := by decide +kernel
theorem dL_law_1327 : decode cL_law 1327 = .ok (.aload_n 2, 1) := by decide +kernel
theorem dL_law_1328 : decode cL_law 1328 = .ok (.aload_n 0, 1) := by decide +kernel
theorem dL_law_1329 : decode cL_law 1329 = .ok (.iload 4, 2) := by decide +kernel
theorem dL_law_1331 : decode cL_law 1331 = .ok (.iconst 1, 1) := by decide +kernel
theorem dL_law_1332 : decode cL_law 1332 = .ok (.iadd, 1) := by decide +kernel
theorem dL_law_1333 : decode cL_law 1333 = .ok (.iaload, 1) := by decide +kernel
theorem dL_law_1334 : decode cL_law 1334 = .ok (.ifCond .eq 7, 3) := by decide +kernel
theorem dL_law_1337 : decode cL_law 1337 = .ok (.iconst 1, 1) := by decide +kernel
theorem dL_law_1338 : decode cL_law 1338 = .ok (.goto 4, 3) := by decide +kernel
theorem dL_law_1341 : decode cL_law 1341 = .ok (.iconst 0, 1) := by decide +kernel
theorem dL_law_1342 : decode cL_law 1342 = .ok (.invokevirtual 135, 3) := by decide +kernel
theorem dL_law_1345 : decode cL_law 1345 = .ok (.if_icmp .eq 512, 3) := by decide +kernel
theorem dL_law_1348 : decode cL_law 1348 = .ok (.iconst 0, 1) := by decide +kernel
theorem dL_law_1349 : decode cL_law 1349 = .ok (.ireturn, 1) := by decide +kernel
theorem dL_law_1350 : decode cL_law 1350 = .ok (.aload_n 1, 1) := by decide +kernel
theorem dL_law_1351 : decode cL_law 1351 = .ok (.aload_n 0, 1) := by decide +kernel
theorem dL_law_1352 : decode cL_law 1352 = .ok (.iload 4, 2) := by decide +kernel
theorem dL_law_1354 : decode cL_law 1354 = .ok (.iconst 1, 1) := by decide +kernel
theorem dL_law_1355 : decode cL_law 1355 = .ok (.iadd, 1) := by decide +kernel
theorem dL_law_1356 : decode cL_law 1356 = .ok (.iaload, 1) := by decide +kernel
theorem dL_law_1357 : decode cL_law 1357 = .ok (.invokevirtual 136, 3) := by decide +kernel
theorem dL_law_1360 : decode cL_law 1360 = .ok (.aload_n 2, 1) := by decide +kernel
theorem dL_law_1361 : decode cL_law 1361 = .ok (.aload_n 0, 1) := by decide +kernel
theorem dL_law_1362 : decode cL_law 1362 = .ok (.iload 4, 2) := by decide +kernel
theorem dL_law_1364 : decode cL_law 1364 = .ok (.iconst 1, 1) := by decide +kernel
theorem dL_law_1365 : decode cL_law 1365 = .ok (.iadd, 1) := by decide +kernel
theorem dL_law_1366 : decode cL_law 1366 = .ok (.iaload, 1) := by decide +kernel
theorem dL_law_1367 : decode cL_law 1367 = .ok (.invokevirtual 139, 3) := by decide +kernel
theorem dL_law_1370 : decode cL_law 1370 = .ok (.if_icmp .eq 487, 3) := by decide +kernel
theorem dL_law_1373 : decode cL_law 1373 = .ok (.iconst 0, 1) := by decide +kernel
theorem dL_law_1374 : decode cL_law 1374 = .ok (.ireturn, 1) := by decide +kernel
theorem dL_law_1375 : decode cL_law 1375 = .ok (.aload_n 1, 1) := by decide +kernel
theorem dL_law_1376 : decode cL_law 1376 = .ok (.invokevirtual 140, 3) := by decide +kernel
theorem dL_law_1379 : decode cL_law 1379 = .ok (.aload_n 2, 1) := by decide +kernel
theorem dL_law_1380 : decode cL_law 1380 = .ok (.invokevirtual 143, 3) := by decide +kernel
theorem dL_law_1383 : decode cL_law 1383 = .ok (.if_icmp .eq 474, 3) := by decide +kernel
theorem dL_law_1386 : decode cL_law 1386 = .ok (.iconst 0, 1) := by decide +kernel
theorem dL_law_1387 : decode cL_law 1387 = .ok (.ireturn, 1) := by decide +kernel
theorem dL_law_1388 : decode cL_law 1388 = .ok (.aload_n 1, 1) := by decide +kernel
theorem dL_law_1389 : decode cL_law 1389 = .ok (.aload_n 0, 1) := by decide +kernel
theorem dL_law_1390 : decode cL_law 1390 = .ok (.iload 4, 2) := by decide +kernel
theorem dL_law_1392 : decode cL_law 1392 = .ok (.iconst 1, 1) := by decide +kernel
theorem dL_law_1393 : decode cL_law 1393 = .ok (.iadd, 1) := by decide +kernel
theorem dL_law_1394 : decode cL_law 1394 = .ok (.iaload, 1) := by decide +kernel
theorem dL_law_1395 : decode cL_law 1395 = .ok (.aload_n 0, 1) := by decide +kernel
theorem dL_law_1396 : decode cL_law 1396 = .ok (.iload 4, 2) := by decide +kernel
theorem dL_law_1398 : decode cL_law 1398 = .ok (.iconst 2, 1) := by decide +kernel
theorem dL_law_1399 : decode cL_law 1399 = .ok (.iadd, 1) := by decide +kernel
theorem dL_law_1400 : decode cL_law 1400 = .ok (.iaload, 1) := by decide +kernel
theorem dL_law_1401 : decode cL_law 1401 = .ok (.aload_n 0, 1) := by decide +kernel
theorem dL_law_1402 : decode cL_law 1402 = .ok (.iload 4, 2) := by decide +kernel
theorem dL_law_1404 : decode cL_law 1404 = .ok (.iconst 3, 1) := by decide +kernel
theorem dL_law_1405 : decode cL_law 1405 = .ok (.iadd, 1) := by decide +kernel
theorem dL_law_1406 : decode cL_law 1406 = .ok (.iaload, 1) := by decide +kernel
theorem dL_law_1407 : decode cL_law 1407 = .ok (.aload_n 0, 1) := by decide +kernel
theorem dL_law_1408 : decode cL_law 1408 = .ok (.iload 4, 2) := by decide +kernel
theorem dL_law_1410 : decode cL_law 1410 = .ok (.iconst 4, 1) := by decide +kernel
theorem dL_law_1411 : decode cL_law 1411 = .ok (.iadd, 1) := by decide +kernel
theorem dL_law_1412 : decode cL_law 1412 = .ok (.iaload, 1) := by decide +kernel
theorem dL_law_1413 : decode cL_law 1413 = .ok (.aload_n 0, 1) := by decide +kernel
theorem dL_law_1414 : decode cL_law 1414 = .ok (.iload 4, 2) := by decide +kernel
theorem dL_law_1416 : decode cL_law 1416 = .ok (.iconst 5, 1) := by decide +kernel
theorem dL_law_1417 : decode cL_law 1417 = .ok (.iadd, 1) := by decide +kernel
theorem dL_law_1418 : decode cL_law 1418 = .ok (.iaload, 1) := by decide +kernel
theorem dL_law_1419 : decode cL_law 1419 = .ok (.invokevirtual 144, 3) := by decide +kernel
theorem dL_law_1422 : decode cL_law 1422 = .ok (.aload_n 2, 1) := by decide +kernel
theorem dL_law_1423 : decode cL_law 1423 = .ok (.aload_n 0, 1) := by decide +kernel
theorem dL_law_1424 : decode cL_law 1424 = .ok (.iload 4, 2) := by decide +kernel
theorem dL_law_1426 : decode cL_law 1426 = .ok (.iconst 1, 1) := by decide +kernel
theorem dL_law_1427 : decode cL_law 1427 = .ok (.iadd, 1) := by decide +kernel
theorem dL_law_1428 : decode cL_law 1428 = .ok (.iaload, 1) := by decide +kernel
theorem dL_law_1429 : decode cL_law 1429 = .ok (.aload_n 0, 1) := by decide +kernel
theorem dL_law_1430 : decode cL_law 1430 = .ok (.iload 4, 2) := by decide +kernel
theorem dL_law_1432 : decode cL_law 1432 = .ok (.iconst 2, 1) := by decide +kernel
theorem dL_law_1433 : decode cL_law 1433 = .ok (.iadd, 1) := by decide +kernel
theorem dL_law_1434 : decode cL_law 1434 = .ok (.iaload, 1) := by decide +kernel
theorem dL_law_1435 : decode cL_law 1435 = .ok (.aload_n 0, 1) := by decide +kernel
theorem dL_law_1436 : decode cL_law 1436 = .ok (.iload 4, 2) := by decide +kernel
theorem dL_law_1438 : decode cL_law 1438 = .ok (.iconst 3, 1) := by decide +kernel
theorem dL_law_1439 : decode cL_law 1439 = .ok (.iadd, 1) := by decide +kernel
theorem dL_law_1440 : decode cL_law 1440 = .ok (.iaload, 1) := by decide +kernel
theorem dL_law_1441 : decode cL_law 1441 = .ok (.aload_n 0, 1) := by decide +kernel
theorem dL_law_1442 : decode cL_law 1442 = .ok (.iload 4, 2) := by decide +kernel
theorem dL_law_1444 : decode cL_law 1444 = .ok (.iconst 4, 1) := by decide +kernel
theorem dL_law_1445 : decode cL_law 1445 = .ok (.iadd, 1) := by decide +kernel
theorem dL_law_1446 : decode cL_law 1446 = .ok (.iaload, 1) := by decide +kernel
theorem dL_law_1447 : decode cL_law 1447 = .ok (.aload_n 0, 1) := by decide +kernel
theorem dL_law_1448 : decode cL_law 1448 = .ok (.iload 4, 2) := by decide +kernel
theorem dL_law_1450 : decode cL_law 1450 = .ok (.iconst 5, 1) := by decide +kernel
theorem dL_law_1451 : decode cL_law 1451 = .ok (.iadd, 1) := by decide +kernel
theorem dL_law_1452 : decode cL_law 1452 = .ok (.iaload, 1) := by decide +kernel
theorem dL_law_1453 : decode cL_law 1453 = .ok (.invokevirtual 148, 3) := by decide +kernel
theorem dL_law_1456 : decode cL_law 1456 = .ok (.lcmp, 1) := by decide +kernel
theorem dL_law_1457 : decode cL_law 1457 = .ok (.ifCond .eq 400, 3) := by decide +kernel
theorem dL_law_1460 : decode cL_law 1460 = .ok (.iconst 0, 1) := by decide +kernel
theorem dL_law_1461 : decode cL_law 1461 = .ok (.ireturn, 1) := by decide +kernel
theorem dL_law_1462 : decode cL_law 1462 = .ok (.aload_n 1, 1) := by decide +kernel
theorem dL_law_1463 : decode cL_law 1463 = .ok (.aload_n 0, 1) := by decide +kernel
theorem dL_law_1464 : decode cL_law 1464 = .ok (.iload 4, 2) := by decide +kernel
theorem dL_law_1466 : decode cL_law 1466 = .ok (.iconst 1, 1) := by decide +kernel
theorem dL_law_1467 : decode cL_law 1467 = .ok (.iadd, 1) := by decide +kernel
theorem dL_law_1468 : decode cL_law 1468 = .ok (.iaload, 1) := by decide +kernel
theorem dL_law_1469 : decode cL_law 1469 = .ok (.aload_n 0, 1) := by decide +kernel
theorem dL_law_1470 : decode cL_law 1470 = .ok (.iload 4, 2) := by decide +kernel
theorem dL_law_1472 : decode cL_law 1472 = .ok (.iconst 2, 1) := by decide +kernel
theorem dL_law_1473 : decode cL_law 1473 = .ok (.iadd, 1) := by decide +kernel
theorem dL_law_1474 : decode cL_law 1474 = .ok (.iaload, 1) := by decide +kernel
theorem dL_law_1475 : decode cL_law 1475 = .ok (.aload_n 0, 1) := by decide +kernel
theorem dL_law_1476 : decode cL_law 1476 = .ok (.iload 4, 2) := by decide +kernel
theorem dL_law_1478 : decode cL_law 1478 = .ok (.iconst 3, 1) := by decide +kernel
theorem dL_law_1479 : decode cL_law 1479 = .ok (.iadd, 1) := by decide +kernel
theorem dL_law_1480 : decode cL_law 1480 = .ok (.iaload, 1) := by decide +kernel
theorem dL_law_1481 : decode cL_law 1481 = .ok (.invokevirtual 149, 3) := by decide +kernel
theorem dL_law_1484 : decode cL_law 1484 = .ok (.aload_n 2, 1) := by decide +kernel
theorem dL_law_1485 : decode cL_law 1485 = .ok (.aload_n 0, 1) := by decide +kernel
theorem dL_law_1486 : decode cL_law 1486 = .ok (.iload 4, 2) := by decide +kernel
theorem dL_law_1488 : decode cL_law 1488 = .ok (.iconst 1, 1) := by decide +kernel
theorem dL_law_1489 : decode cL_law 1489 = .ok (.iadd, 1) := by decide +kernel
theorem dL_law_1490 : decode cL_law 1490 = .ok (.iaload, 1) := by decide +kernel
theorem dL_law_1491 : decode cL_law 1491 = .ok (.aload_n 0, 1) := by decide +kernel
theorem dL_law_1492 : decode cL_law 1492 = .ok (.iload 4, 2) := by decide +kernel
theorem dL_law_1494 : decode cL_law 1494 = .ok (.iconst 2, 1) := by decide +kernel
theorem dL_law_1495 : decode cL_law 1495 = .ok (.iadd, 1) := by decide +kernel
theorem dL_law_1496 : decode cL_law 1496 = .ok (.iaload, 1) := by decide +kernel
theorem dL_law_1497 : decode cL_law 1497 = .ok (.aload_n 0, 1) := by decide +kernel
theorem dL_law_1498 : decode cL_law 1498 = .ok (.iload 4, 2) := by decide +kernel
theorem dL_law_1500 : decode cL_law 1500 = .ok (.iconst 3, 1) := by decide +kernel
theorem dL_law_1501 : decode cL_law 1501 = .ok (.iadd, 1) := by decide +kernel
theorem dL_law_1502 : decode cL_law 1502 = .ok (.iaload, 1) := by decide +kernel
theorem dL_law_1503 : decode cL_law 1503 = .ok (.invokevirtual 152, 3) := by decide +kernel
theorem dL_law_1506 : decode cL_law 1506 = .ok (.if_icmp .eq 351, 3) := by decide +kernel
theorem dL_law_1509 : decode cL_law 1509 = .ok (.iconst 0, 1) := by decide +kernel
theorem dL_law_1510 : decode cL_law 1510 = .ok (.ireturn, 1) := by decide +kernel
theorem dL_law_1511 : decode cL_law 1511 = .ok (.aload_n 1, 1) := by decide +kernel
theorem dL_law_1512 : decode cL_law 1512 = .ok (.aload_n 0, 1) := by decide +kernel
theorem dL_law_1513 : decode cL_law 1513 = .ok (.iload 4, 2) := by decide +kernel
theorem dL_law_1515 : decode cL_law 1515 = .ok (.iconst 1, 1) := by decide +kernel
theorem dL_law_1516 : decode cL_law 1516 = .ok (.iadd, 1) := by decide +kernel
theorem dL_law_1517 : decode cL_law 1517 = .ok (.iaload, 1) := by decide +kernel
theorem dL_law_1518 : decode cL_law 1518 = .ok (.invokevirtual 153, 3) := by decide +kernel
theorem dL_law_1521 : decode cL_law 1521 = .ok (.aload_n 2, 1) := by decide +kernel
theorem dL_law_1522 : decode cL_law 1522 = .ok (.aload_n 0, 1) := by decide +kernel
theorem dL_law_1523 : decode cL_law 1523 = .ok (.iload 4, 2) := by decide +kernel
theorem dL_law_1525 : decode cL_law 1525 = .ok (.iconst 1, 1) := by decide +kernel
theorem dL_law_1526 : decode cL_law 1526 = .ok (.iadd, 1) := by decide +kernel
theorem dL_law_1527 : decode cL_law 1527 = .ok (.iaload, 1) := by decide +kernel
theorem dL_law_1528 : decode cL_law 1528 = .ok (.invokevirtual 156, 3) := by decide +kernel
theorem dL_law_1531 : decode cL_law 1531 = .ok (.if_icmp .eq 326, 3) := by decide +kernel
theorem dL_law_1534 : decode cL_law 1534 = .ok (.iconst 0, 1) := by decide +kernel
theorem dL_law_1535 : decode cL_law 1535 = .ok (.ireturn, 1) := by decide +kernel
theorem dL_law_1536 : decode cL_law 1536 = .ok (.aload_n 1, 1) := by decide +kernel
theorem dL_law_1537 : decode cL_law 1537 = .ok (.aload_n 0, 1) := by decide +kernel
theorem dL_law_1538 : decode cL_law 1538 = .ok (.iload 4, 2) := by decide +kernel
theorem dL_law_1540 : decode cL_law 1540 = .ok (.iconst 1, 1) := by decide +kernel
theorem dL_law_1541 : decode cL_law 1541 = .ok (.iadd, 1) := by decide +kernel
theorem dL_law_1542 : decode cL_law 1542 = .ok (.iaload, 1) := by decide +kernel
theorem dL_law_1543 : decode cL_law 1543 = .ok (.aload_n 0, 1) := by decide +kernel
theorem dL_law_1544 : decode cL_law 1544 = .ok (.iload 4, 2) := by decide +kernel
theorem dL_law_1546 : decode cL_law 1546 = .ok (.iconst 2, 1) := by decide +kernel
theorem dL_law_1547 : decode cL_law 1547 = .ok (.iadd, 1) := by decide +kernel
theorem dL_law_1548 : decode cL_law 1548 = .ok (.iaload, 1) := by decide +kernel
theorem dL_law_1549 : decode cL_law 1549 = .ok (.invokevirtual 157, 3) := by decide +kernel
theorem dL_law_1552 : decode cL_law 1552 = .ok (.aload_n 2, 1) := by decide +kernel
theorem dL_law_1553 : decode cL_law 1553 = .ok (.aload_n 0, 1) := by decide +kernel
theorem dL_law_1554 : decode cL_law 1554 = .ok (.iload 4, 2) := by decide +kernel
theorem dL_law_1556 : decode cL_law 1556 = .ok (.iconst 1, 1) := by decide +kernel
theorem dL_law_1557 : decode cL_law 1557 = .ok (.iadd, 1) := by decide +kernel
theorem dL_law_1558 : decode cL_law 1558 = .ok (.iaload, 1) := by decide +kernel
theorem dL_law_1559 : decode cL_law 1559 = .ok (.aload_n 0, 1) := by decide +kernel
theorem dL_law_1560 : decode cL_law 1560 = .ok (.iload 4, 2) := by decide +kernel
theorem dL_law_1562 : decode cL_law 1562 = .ok (.iconst 2, 1) := by decide +kernel
theorem dL_law_1563 : decode cL_law 1563 = .ok (.iadd, 1) := by decide +kernel
theorem dL_law_1564 : decode cL_law 1564 = .ok (.iaload, 1) := by decide +kernel
theorem dL_law_1565 : decode cL_law 1565 = .ok (.invokevirtual 160, 3) := by decide +kernel
theorem dL_law_1568 : decode cL_law 1568 = .ok (.if_icmp .eq 289, 3) := by decide +kernel
theorem dL_law_1571 : decode cL_law 1571 = .ok (.iconst 0, 1) := by decide +kernel
theorem dL_law_1572 : decode cL_law 1572 = .ok (.ireturn, 1) := by decide +kernel
theorem dL_law_1573 : decode cL_law 1573 = .ok (.aload_n 1, 1) := by decide +kernel
theorem dL_law_1574 : decode cL_law 1574 = .ok (.aload_n 0, 1) := by decide +kernel
theorem dL_law_1575 : decode cL_law 1575 = .ok (.iload 4, 2) := by decide +kernel
theorem dL_law_1577 : decode cL_law 1577 = .ok (.iconst 1, 1) := by decide +kernel
theorem dL_law_1578 : decode cL_law 1578 = .ok (.iadd, 1) := by decide +kernel
theorem dL_law_1579 : decode cL_law 1579 = .ok (.iaload, 1) := by decide +kernel
theorem dL_law_1580 : decode cL_law 1580 = .ok (.aload_n 0, 1) := by decide +kernel
theorem dL_law_1581 : decode cL_law 1581 = .ok (.iload 4, 2) := by decide +kernel
theorem dL_law_1583 : decode cL_law 1583 = .ok (.iconst 2, 1) := by decide +kernel
theorem dL_law_1584 : decode cL_law 1584 = .ok (.iadd, 1) := by decide +kernel
theorem dL_law_1585 : decode cL_law 1585 = .ok (.iaload, 1) := by decide +kernel
theorem dL_law_1586 : decode cL_law 1586 = .ok (.invokevirtual 161, 3) := by decide +kernel
theorem dL_law_1589 : decode cL_law 1589 = .ok (.aload_n 2, 1) := by decide +kernel
theorem dL_law_1590 : decode cL_law 1590 = .ok (.aload_n 0, 1) := by decide +kernel
theorem dL_law_1591 : decode cL_law 1591 = .ok (.iload 4, 2) := by decide +kernel
theorem dL_law_1593 : decode cL_law 1593 = .ok (.iconst 1, 1) := by decide +kernel
theorem dL_law_1594 : decode cL_law 1594 = .ok (.iadd, 1) := by decide +kernel
theorem dL_law_1595 : decode cL_law 1595 = .ok (.iaload, 1) := by decide +kernel
theorem dL_law_1596 : decode cL_law 1596 = .ok (.aload_n 0, 1) := by decide +kernel
theorem dL_law_1597 : decode cL_law 1597 = .ok (.iload 4, 2) := by decide +kernel
theorem dL_law_1599 : decode cL_law 1599 = .ok (.iconst 2, 1) := by decide +kernel
theorem dL_law_1600 : decode cL_law 1600 = .ok (.iadd, 1) := by decide +kernel
theorem dL_law_1601 : decode cL_law 1601 = .ok (.iaload, 1) := by decide +kernel
theorem dL_law_1602 : decode cL_law 1602 = .ok (.invokevirtual 164, 3) := by decide +kernel
theorem dL_law_1605 : decode cL_law 1605 = .ok (.if_icmp .eq 252, 3) := by decide +kernel
theorem dL_law_1608 : decode cL_law 1608 = .ok (.iconst 0, 1) := by decide +kernel
theorem dL_law_1609 : decode cL_law 1609 = .ok (.ireturn, 1) := by decide +kernel
theorem dL_law_1610 : decode cL_law 1610 = .ok (.aload_n 1, 1) := by decide +kernel
theorem dL_law_1611 : decode cL_law 1611 = .ok (.aload_n 0, 1) := by decide +kernel
theorem dL_law_1612 : decode cL_law 1612 = .ok (.iload 4, 2) := by decide +kernel
theorem dL_law_1614 : decode cL_law 1614 = .ok (.iconst 1, 1) := by decide +kernel
theorem dL_law_1615 : decode cL_law 1615 = .ok (.iadd, 1) := by decide +kernel
theorem dL_law_1616 : decode cL_law 1616 = .ok (.iaload, 1) := by decide +kernel
theorem dL_law_1617 : decode cL_law 1617 = .ok (.aload_n 0, 1) := by decide +kernel
theorem dL_law_1618 : decode cL_law 1618 = .ok (.iload 4, 2) := by decide +kernel
theorem dL_law_1620 : decode cL_law 1620 = .ok (.iconst 2, 1) := by decide +kernel
theorem dL_law_1621 : decode cL_law 1621 = .ok (.iadd, 1) := by decide +kernel
theorem dL_law_1622 : decode cL_law 1622 = .ok (.iaload, 1) := by decide +kernel
theorem dL_law_1623 : decode cL_law 1623 = .ok (.invokevirtual 165, 3) := by decide +kernel
theorem dL_law_1626 : decode cL_law 1626 = .ok (.aload_n 2, 1) := by decide +kernel
theorem dL_law_1627 : decode cL_law 1627 = .ok (.aload_n 0, 1) := by decide +kernel
theorem dL_law_1628 : decode cL_law 1628 = .ok (.iload 4, 2) := by decide +kernel
theorem dL_law_1630 : decode cL_law 1630 = .ok (.iconst 1, 1) := by decide +kernel
theorem dL_law_1631 : decode cL_law 1631 = .ok (.iadd, 1) := by decide +kernel
theorem dL_law_1632 : decode cL_law 1632 = .ok (.iaload, 1) := by decide +kernel
theorem dL_law_1633 : decode cL_law 1633 = .ok (.aload_n 0, 1) := by decide +kernel
theorem dL_law_1634 : decode cL_law 1634 = .ok (.iload 4, 2) := by decide +kernel
theorem dL_law_1636 : decode cL_law 1636 = .ok (.iconst 2, 1) := by decide +kernel
theorem dL_law_1637 : decode cL_law 1637 = .ok (.iadd, 1) := by decide +kernel
theorem dL_law_1638 : decode cL_law 1638 = .ok (.iaload, 1) := by decide +kernel
theorem dL_law_1639 : decode cL_law 1639 = .ok (.invokevirtual 168, 3) := by decide +kernel
theorem dL_law_1642 : decode cL_law 1642 = .ok (.if_icmp .eq 215, 3) := by decide +kernel
theorem dL_law_1645 : decode cL_law 1645 = .ok (.iconst 0, 1) := by decide +kernel
theorem dL_law_1646 : decode cL_law 1646 = .ok (.ireturn, 1) := by decide +kernel
theorem dL_law_1647 : decode cL_law 1647 = .ok (.aload_n 1, 1) := by decide +kernel
theorem dL_law_1648 : decode cL_law 1648 = .ok (.aload_n 0, 1) := by decide +kernel
theorem dL_law_1649 : decode cL_law 1649 = .ok (.iload 4, 2) := by decide +kernel
theorem dL_law_1651 : decode cL_law 1651 = .ok (.iconst 1, 1) := by decide +kernel
theorem dL_law_1652 : decode cL_law 1652 = .ok (.iadd, 1) := by decide +kernel
theorem dL_law_1653 : decode cL_law 1653 = .ok (.iaload, 1) := by decide +kernel
theorem dL_law_1654 : decode cL_law 1654 = .ok (.aload_n 0, 1) := by decide +kernel
theorem dL_law_1655 : decode cL_law 1655 = .ok (.iload 4, 2) := by decide +kernel
theorem dL_law_1657 : decode cL_law 1657 = .ok (.iconst 2, 1) := by decide +kernel
theorem dL_law_1658 : decode cL_law 1658 = .ok (.iadd, 1) := by decide +kernel
theorem dL_law_1659 : decode cL_law 1659 = .ok (.iaload, 1) := by decide +kernel
theorem dL_law_1660 : decode cL_law 1660 = .ok (.aload_n 0, 1) := by decide +kernel
theorem dL_law_1661 : decode cL_law 1661 = .ok (.iload 4, 2) := by decide +kernel
theorem dL_law_1663 : decode cL_law 1663 = .ok (.iconst 3, 1) := by decide +kernel
theorem dL_law_1664 : decode cL_law 1664 = .ok (.iadd, 1) := by decide +kernel
theorem dL_law_1665 : decode cL_law 1665 = .ok (.iaload, 1) := by decide +kernel
theorem dL_law_1666 : decode cL_law 1666 = .ok (.aload_n 0, 1) := by decide +kernel
theorem dL_law_1667 : decode cL_law 1667 = .ok (.iload 4, 2) := by decide +kernel
theorem dL_law_1669 : decode cL_law 1669 = .ok (.iconst 4, 1) := by decide +kernel
theorem dL_law_1670 : decode cL_law 1670 = .ok (.iadd, 1) := by decide +kernel
theorem dL_law_1671 : decode cL_law 1671 = .ok (.iaload, 1) := by decide +kernel
theorem dL_law_1672 : decode cL_law 1672 = .ok (.aload_n 0, 1) := by decide +kernel
theorem dL_law_1673 : decode cL_law 1673 = .ok (.iload 4, 2) := by decide +kernel
theorem dL_law_1675 : decode cL_law 1675 = .ok (.iconst 5, 1) := by decide +kernel
theorem dL_law_1676 : decode cL_law 1676 = .ok (.iadd, 1) := by decide +kernel
theorem dL_law_1677 : decode cL_law 1677 = .ok (.iaload, 1) := by decide +kernel
theorem dL_law_1678 : decode cL_law 1678 = .ok (.invokevirtual 169, 3) := by decide +kernel
theorem dL_law_1681 : decode cL_law 1681 = .ok (.aload_n 2, 1) := by decide +kernel
theorem dL_law_1682 : decode cL_law 1682 = .ok (.aload_n 0, 1) := by decide +kernel
theorem dL_law_1683 : decode cL_law 1683 = .ok (.iload 4, 2) := by decide +kernel
theorem dL_law_1685 : decode cL_law 1685 = .ok (.iconst 1, 1) := by decide +kernel
theorem dL_law_1686 : decode cL_law 1686 = .ok (.iadd, 1) := by decide +kernel
theorem dL_law_1687 : decode cL_law 1687 = .ok (.iaload, 1) := by decide +kernel
theorem dL_law_1688 : decode cL_law 1688 = .ok (.aload_n 0, 1) := by decide +kernel
theorem dL_law_1689 : decode cL_law 1689 = .ok (.iload 4, 2) := by decide +kernel
theorem dL_law_1691 : decode cL_law 1691 = .ok (.iconst 2, 1) := by decide +kernel
theorem dL_law_1692 : decode cL_law 1692 = .ok (.iadd, 1) := by decide +kernel
theorem dL_law_1693 : decode cL_law 1693 = .ok (.iaload, 1) := by decide +kernel
theorem dL_law_1694 : decode cL_law 1694 = .ok (.aload_n 0, 1) := by decide +kernel
theorem dL_law_1695 : decode cL_law 1695 = .ok (.iload 4, 2) := by decide +kernel
theorem dL_law_1697 : decode cL_law 1697 = .ok (.iconst 3, 1) := by decide +kernel
theorem dL_law_1698 : decode cL_law 1698 = .ok (.iadd, 1) := by decide +kernel
theorem dL_law_1699 : decode cL_law 1699 = .ok (.iaload, 1) := by decide +kernel
theorem dL_law_1700 : decode cL_law 1700 = .ok (.aload_n 0, 1) := by decide +kernel
theorem dL_law_1701 : decode cL_law 1701 = .ok (.iload 4, 2) := by decide +kernel
theorem dL_law_1703 : decode cL_law 1703 = .ok (.iconst 4, 1) := by decide +kernel
theorem dL_law_1704 : decode cL_law 1704 = .ok (.iadd, 1) := by decide +kernel
theorem dL_law_1705 : decode cL_law 1705 = .ok (.iaload, 1) := by decide +kernel
theorem dL_law_1706 : decode cL_law 1706 = .ok (.aload_n 0, 1) := by decide +kernel
theorem dL_law_1707 : decode cL_law 1707 = .ok (.iload 4, 2) := by decide +kernel
theorem dL_law_1709 : decode cL_law 1709 = .ok (.iconst 5, 1) := by decide +kernel
theorem dL_law_1710 : decode cL_law 1710 = .ok (.iadd, 1) := by decide +kernel
theorem dL_law_1711 : decode cL_law 1711 = .ok (.iaload, 1) := by decide +kernel
theorem dL_law_1712 : decode cL_law 1712 = .ok (.invokevirtual 172, 3) := by decide +kernel
theorem dL_law_1715 : decode cL_law 1715 = .ok (.if_icmp .eq 142, 3) := by decide +kernel
theorem dL_law_1718 : decode cL_law 1718 = .ok (.iconst 0, 1) := by decide +kernel
theorem dL_law_1719 : decode cL_law 1719 = .ok (.ireturn, 1) := by decide +kernel
theorem dL_law_1720 : decode cL_law 1720 = .ok (.aload_n 1, 1) := by decide +kernel
theorem dL_law_1721 : decode cL_law 1721 = .ok (.aload_n 0, 1) := by decide +kernel
theorem dL_law_1722 : decode cL_law 1722 = .ok (.iload 4, 2) := by decide +kernel
theorem dL_law_1724 : decode cL_law 1724 = .ok (.iconst 1, 1) := by decide +kernel
theorem dL_law_1725 : decode cL_law 1725 = .ok (.iadd, 1) := by decide +kernel
theorem dL_law_1726 : decode cL_law 1726 = .ok (.iaload, 1) := by decide +kernel
theorem dL_law_1727 : decode cL_law 1727 = .ok (.aload_n 0, 1) := by decide +kernel
theorem dL_law_1728 : decode cL_law 1728 = .ok (.iload 4, 2) := by decide +kernel
theorem dL_law_1730 : decode cL_law 1730 = .ok (.iconst 2, 1) := by decide +kernel
theorem dL_law_1731 : decode cL_law 1731 = .ok (.iadd, 1) := by decide +kernel
theorem dL_law_1732 : decode cL_law 1732 = .ok (.iaload, 1) := by decide +kernel
theorem dL_law_1733 : decode cL_law 1733 = .ok (.aload_n 0, 1) := by decide +kernel
theorem dL_law_1734 : decode cL_law 1734 = .ok (.iload 4, 2) := by decide +kernel
theorem dL_law_1736 : decode cL_law 1736 = .ok (.iconst 3, 1) := by decide +kernel
theorem dL_law_1737 : decode cL_law 1737 = .ok (.iadd, 1) := by decide +kernel
theorem dL_law_1738 : decode cL_law 1738 = .ok (.iaload, 1) := by decide +kernel
theorem dL_law_1739 : decode cL_law 1739 = .ok (.aload_n 0, 1) := by decide +kernel
theorem dL_law_1740 : decode cL_law 1740 = .ok (.iload 4, 2) := by decide +kernel
theorem dL_law_1742 : decode cL_law 1742 = .ok (.iconst 4, 1) := by decide +kernel
theorem dL_law_1743 : decode cL_law 1743 = .ok (.iadd, 1) := by decide +kernel
theorem dL_law_1744 : decode cL_law 1744 = .ok (.iaload, 1) := by decide +kernel
theorem dL_law_1745 : decode cL_law 1745 = .ok (.invokevirtual 173, 3) := by decide +kernel
theorem dL_law_1748 : decode cL_law 1748 = .ok (.aload_n 2, 1) := by decide +kernel
theorem dL_law_1749 : decode cL_law 1749 = .ok (.aload_n 0, 1) := by decide +kernel
theorem dL_law_1750 : decode cL_law 1750 = .ok (.iload 4, 2) := by decide +kernel
theorem dL_law_1752 : decode cL_law 1752 = .ok (.iconst 1, 1) := by decide +kernel
theorem dL_law_1753 : decode cL_law 1753 = .ok (.iadd, 1) := by decide +kernel
theorem dL_law_1754 : decode cL_law 1754 = .ok (.iaload, 1) := by decide +kernel
theorem dL_law_1755 : decode cL_law 1755 = .ok (.aload_n 0, 1) := by decide +kernel
theorem dL_law_1756 : decode cL_law 1756 = .ok (.iload 4, 2) := by decide +kernel
theorem dL_law_1758 : decode cL_law 1758 = .ok (.iconst 2, 1) := by decide +kernel
theorem dL_law_1759 : decode cL_law 1759 = .ok (.iadd, 1) := by decide +kernel
theorem dL_law_1760 : decode cL_law 1760 = .ok (.iaload, 1) := by decide +kernel
theorem dL_law_1761 : decode cL_law 1761 = .ok (.aload_n 0, 1) := by decide +kernel
theorem dL_law_1762 : decode cL_law 1762 = .ok (.iload 4, 2) := by decide +kernel
theorem dL_law_1764 : decode cL_law 1764 = .ok (.iconst 3, 1) := by decide +kernel
theorem dL_law_1765 : decode cL_law 1765 = .ok (.iadd, 1) := by decide +kernel
theorem dL_law_1766 : decode cL_law 1766 = .ok (.iaload, 1) := by decide +kernel
theorem dL_law_1767 : decode cL_law 1767 = .ok (.aload_n 0, 1) := by decide +kernel
theorem dL_law_1768 : decode cL_law 1768 = .ok (.iload 4, 2) := by decide +kernel
theorem dL_law_1770 : decode cL_law 1770 = .ok (.iconst 4, 1) := by decide +kernel
theorem dL_law_1771 : decode cL_law 1771 = .ok (.iadd, 1) := by decide +kernel
theorem dL_law_1772 : decode cL_law 1772 = .ok (.iaload, 1) := by decide +kernel
theorem dL_law_1773 : decode cL_law 1773 = .ok (.invokevirtual 176, 3) := by decide +kernel
theorem dL_law_1776 : decode cL_law 1776 = .ok (.if_icmp .eq 81, 3) := by decide +kernel
theorem dL_law_1779 : decode cL_law 1779 = .ok (.iconst 0, 1) := by decide +kernel
theorem dL_law_1780 : decode cL_law 1780 = .ok (.ireturn, 1) := by decide +kernel
theorem dL_law_1781 : decode cL_law 1781 = .ok (.aload_n 1, 1) := by decide +kernel
theorem dL_law_1782 : decode cL_law 1782 = .ok (.aload_n 0, 1) := by decide +kernel
theorem dL_law_1783 : decode cL_law 1783 = .ok (.iload 4, 2) := by decide +kernel
theorem dL_law_1785 : decode cL_law 1785 = .ok (.iconst 1, 1) := by decide +kernel
theorem dL_law_1786 : decode cL_law 1786 = .ok (.iadd, 1) := by decide +kernel
theorem dL_law_1787 : decode cL_law 1787 = .ok (.iaload, 1) := by decide +kernel
theorem dL_law_1788 : decode cL_law 1788 = .ok (.invokevirtual 177, 3) := by decide +kernel
theorem dL_law_1791 : decode cL_law 1791 = .ok (.aload_n 2, 1) := by decide +kernel
theorem dL_law_1792 : decode cL_law 1792 = .ok (.aload_n 0, 1) := by decide +kernel
theorem dL_law_1793 : decode cL_law 1793 = .ok (.iload 4, 2) := by decide +kernel
theorem dL_law_1795 : decode cL_law 1795 = .ok (.iconst 1, 1) := by decide +kernel
theorem dL_law_1796 : decode cL_law 1796 = .ok (.iadd, 1) := by decide +kernel
theorem dL_law_1797 : decode cL_law 1797 = .ok (.iaload, 1) := by decide +kernel
theorem dL_law_1798 : decode cL_law 1798 = .ok (.invokevirtual 180, 3) := by decide +kernel
theorem dL_law_1801 : decode cL_law 1801 = .ok (.if_icmp .eq 56, 3) := by decide +kernel
theorem dL_law_1804 : decode cL_law 1804 = .ok (.iconst 0, 1) := by decide +kernel
theorem dL_law_1805 : decode cL_law 1805 = .ok (.ireturn, 1) := by decide +kernel
theorem dL_law_1806 : decode cL_law 1806 = .ok (.aload_n 1, 1) := by decide +kernel
theorem dL_law_1807 : decode cL_law 1807 = .ok (.invokevirtual 181, 3) := by decide +kernel
theorem dL_law_1810 : decode cL_law 1810 = .ok (.aload_n 2, 1) := by decide +kernel
theorem dL_law_1811 : decode cL_law 1811 = .ok (.invokevirtual 184, 3) := by decide +kernel
theorem dL_law_1814 : decode cL_law 1814 = .ok (.if_icmp .eq 43, 3) := by decide +kernel
theorem dL_law_1817 : decode cL_law 1817 = .ok (.iconst 0, 1) := by decide +kernel
theorem dL_law_1818 : decode cL_law 1818 = .ok (.ireturn, 1) := by decide +kernel
theorem dL_law_1819 : decode cL_law 1819 = .ok (.aload_n 1, 1) := by decide +kernel
theorem dL_law_1820 : decode cL_law 1820 = .ok (.invokevirtual 185, 3) := by decide +kernel
theorem dL_law_1823 : decode cL_law 1823 = .ok (.aload_n 2, 1) := by decide +kernel
theorem dL_law_1824 : decode cL_law 1824 = .ok (.invokevirtual 188, 3) := by decide +kernel
theorem dL_law_1827 : decode cL_law 1827 = .ok (.if_icmp .eq 30, 3) := by decide +kernel
theorem dL_law_1830 : decode cL_law 1830 = .ok (.iconst 0, 1) := by decide +kernel
theorem dL_law_1831 : decode cL_law 1831 = .ok (.ireturn, 1) := by decide +kernel
theorem dL_law_1832 : decode cL_law 1832 = .ok (.aload_n 1, 1) := by decide +kernel
theorem dL_law_1833 : decode cL_law 1833 = .ok (.aload_n 0, 1) := by decide +kernel
theorem dL_law_1834 : decode cL_law 1834 = .ok (.iload 4, 2) := by decide +kernel
theorem dL_law_1836 : decode cL_law 1836 = .ok (.iconst 1, 1) := by decide +kernel
theorem dL_law_1837 : decode cL_law 1837 = .ok (.iadd, 1) := by decide +kernel
theorem dL_law_1838 : decode cL_law 1838 = .ok (.iaload, 1) := by decide +kernel
theorem dL_law_1839 : decode cL_law 1839 = .ok (.invokevirtual 189, 3) := by decide +kernel
theorem dL_law_1842 : decode cL_law 1842 = .ok (.aload_n 2, 1) := by decide +kernel
theorem dL_law_1843 : decode cL_law 1843 = .ok (.aload_n 0, 1) := by decide +kernel
theorem dL_law_1844 : decode cL_law 1844 = .ok (.iload 4, 2) := by decide +kernel
theorem dL_law_1846 : decode cL_law 1846 = .ok (.iconst 1, 1) := by decide +kernel
theorem dL_law_1847 : decode cL_law 1847 = .ok (.iadd, 1) := by decide +kernel
theorem dL_law_1848 : decode cL_law 1848 = .ok (.iaload, 1) := by decide +kernel
theorem dL_law_1849 : decode cL_law 1849 = .ok (.invokevirtual 192, 3) := by decide +kernel
theorem dL_law_1852 : decode cL_law 1852 = .ok (.if_icmp .eq 5, 3) := by decide +kernel
theorem dL_law_1855 : decode cL_law 1855 = .ok (.iconst 0, 1) := by decide +kernel
theorem dL_law_1856 : decode cL_law 1856 = .ok (.ireturn, 1) := by decide +kernel
theorem dL_law_1857 : decode cL_law 1857 = .ok (.iinc 4 7, 3) := by decide +kernel
theorem dL_law_1860 : decode cL_law 1860 = .ok (.goto (-1837), 3) := by decide +kernel
theorem dL_law_1863 : decode cL_law 1863 = .ok (.iconst 1, 1) := by decide +kernel
theorem dL_law_1864 : decode cL_law 1864 = .ok (.ireturn, 1) := by decide +kernel
