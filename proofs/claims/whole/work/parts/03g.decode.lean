theorem dX7_law_31 : decode cX7_law 31 = .ok (.sipush 715, 3) := by decide +kernel
theorem dX7_law_34 : decode cX7_law 34 = .ok (.iload 4, 2) := by decide +kernel
theorem dX7_law_36 : decode cX7_law 36 = .ok (.iadd, 1) := by decide +kernel
theorem dX7_law_37 : decode cX7_law 37 = .ok (.iaload, 1) := by decide +kernel
theorem dX7_law_38 : decode cX7_law 38 = .ok (.invokevirtual 277, 3) := by decide +kernel
theorem dX7_law_41 : decode cX7_law 41 = .ok (.ifCond .eq 7, 3) := by decide +kernel
theorem dX7_law_44 : decode cX7_law 44 = .ok (.iconst 1, 1) := by decide +kernel
theorem dX7_law_45 : decode cX7_law 45 = .ok (.goto 4, 3) := by decide +kernel
theorem dX7_law_48 : decode cX7_law 48 = .ok (.iconst 0, 1) := by decide +kernel
theorem dX7_law_49 : decode cX7_law 49 = .ok (.iadd, 1) := by decide +kernel
theorem dX7_law_50 : decode cX7_law 50 = .ok (.istore_n 3, 1) := by decide +kernel
theorem dX7_law_51 : decode cX7_law 51 = .ok (.iinc 4 1, 3) := by decide +kernel
theorem dX7_law_54 : decode cX7_law 54 = .ok (.goto (-36), 3) := by decide +kernel
theorem dX7_law_57 : decode cX7_law 57 = .ok (.iconst 0, 1) := by decide +kernel
theorem dX7_law_58 : decode cX7_law 58 = .ok (.istore 4, 2) := by decide +kernel
theorem dX7_law_60 : decode cX7_law 60 = .ok (.iload 4, 2) := by decide +kernel
theorem dX7_law_62 : decode cX7_law 62 = .ok (.sipush 128, 3) := by decide +kernel
theorem dX7_law_65 : decode cX7_law 65 = .ok (.if_icmp .ge 124, 3) := by decide +kernel
theorem dX7_law_68 : decode cX7_law 68 = .ok (.aload_n 0, 1) := by decide +kernel
theorem dX7_law_69 : decode cX7_law 69 = .ok (.iload 4, 2) := by decide +kernel
theorem dX7_law_71 : decode cX7_law 71 = .ok (.invokevirtual 109, 3) := by decide +kernel
theorem dX7_law_74 : decode cX7_law 74 = .ok (.ifCond .ne 6, 3) := by decide +kernel
theorem dX7_law_77 : decode cX7_law 77 = .ok (.goto 106, 3) := by decide +kernel
theorem dX7_law_80 : decode cX7_law 80 = .ok (.iconst 0, 1) := by decide +kernel
theorem dX7_law_81 : decode cX7_law 81 = .ok (.istore 5, 2) := by decide +kernel
theorem dX7_law_83 : decode cX7_law 83 = .ok (.iconst 0, 1) := by decide +kernel
theorem dX7_law_84 : decode cX7_law 84 = .ok (.istore 6, 2) := by decide +kernel
theorem dX7_law_86 : decode cX7_law 86 = .ok (.iload 6, 2) := by decide +kernel
theorem dX7_law_88 : decode cX7_law 88 = .ok (.aload_n 0, 1) := by decide +kernel
theorem dX7_law_89 : decode cX7_law 89 = .ok (.getfield 7, 3) := by decide +kernel
theorem dX7_law_92 : decode cX7_law 92 = .ok (.sipush 128, 3) := by decide +kernel
theorem dX7_law_95 : decode cX7_law 95 = .ok (.iload 4, 2) := by decide +kernel
theorem dX7_law_97 : decode cX7_law 97 = .ok (.iadd, 1) := by decide +kernel
theorem dX7_law_98 : decode cX7_law 98 = .ok (.iaload, 1) := by decide +kernel
theorem dX7_law_99 : decode cX7_law 99 = .ok (.if_icmp .ge 71, 3) := by decide +kernel
theorem dX7_law_102 : decode cX7_law 102 = .ok (.aload_n 0, 1) := by decide +kernel
theorem dX7_law_103 : decode cX7_law 103 = .ok (.getfield 7, 3) := by decide +kernel
theorem dX7_law_106 : decode cX7_law 106 = .ok (.iload 4, 2) := by decide +kernel
theorem dX7_law_108 : decode cX7_law 108 = .ok (.iload 6, 2) := by decide +kernel
theorem dX7_law_110 : decode cX7_law 110 = .ok (.invokestatic 161, 3) := by decide +kernel
theorem dX7_law_113 : decode cX7_law 113 = .ok (.iaload, 1) := by decide +kernel
theorem dX7_law_114 : decode cX7_law 114 = .ok (.istore 7, 2) := by decide +kernel
theorem dX7_law_116 : decode cX7_law 116 = .ok (.iload 5, 2) := by decide +kernel
theorem dX7_law_118 : decode cX7_law 118 = .ok (.ifCond .ne 22, 3) := by decide +kernel
theorem dX7_law_121 : decode cX7_law 121 = .ok (.aload_n 0, 1) := by decide +kernel
theorem dX7_law_122 : decode cX7_law 122 = .ok (.iload 4, 2) := by decide +kernel
theorem dX7_law_124 : decode cX7_law 124 = .ok (.invokevirtual 106, 3) := by decide +kernel
theorem dX7_law_127 : decode cX7_law 127 = .ok (.iconst 3, 1) := by decide +kernel
theorem dX7_law_128 : decode cX7_law 128 = .ok (.if_icmp .ne 16, 3) := by decide +kernel
theorem dX7_law_131 : decode cX7_law 131 = .ok (.aload_n 0, 1) := by decide +kernel
theorem dX7_law_132 : decode cX7_law 132 = .ok (.iload 7, 2) := by decide +kernel
theorem dX7_law_134 : decode cX7_law 134 = .ok (.invokevirtual 158, 3) := by decide +kernel
theorem dX7_law_137 : decode cX7_law 137 = .ok (.ifCond .eq 7, 3) := by decide +kernel
theorem dX7_law_140 : decode cX7_law 140 = .ok (.iconst 1, 1) := by decide +kernel
theorem dX7_law_141 : decode cX7_law 141 = .ok (.goto 4, 3) := by decide +kernel
theorem dX7_law_144 : decode cX7_law 144 = .ok (.iconst 0, 1) := by decide +kernel
theorem dX7_law_145 : decode cX7_law 145 = .ok (.istore 5, 2) := by decide +kernel
theorem dX7_law_147 : decode cX7_law 147 = .ok (.iload_n 3, 1) := by decide +kernel
theorem dX7_law_148 : decode cX7_law 148 = .ok (.aload_n 0, 1) := by decide +kernel
theorem dX7_law_149 : decode cX7_law 149 = .ok (.iload 7, 2) := by decide +kernel
theorem dX7_law_151 : decode cX7_law 151 = .ok (.invokevirtual 277, 3) := by decide +kernel
theorem dX7_law_154 : decode cX7_law 154 = .ok (.ifCond .eq 7, 3) := by decide +kernel
theorem dX7_law_157 : decode cX7_law 157 = .ok (.iconst 1, 1) := by decide +kernel
theorem dX7_law_158 : decode cX7_law 158 = .ok (.goto 4, 3) := by decide +kernel
theorem dX7_law_161 : decode cX7_law 161 = .ok (.iconst 0, 1) := by decide +kernel
theorem dX7_law_162 : decode cX7_law 162 = .ok (.iadd, 1) := by decide +kernel
theorem dX7_law_163 : decode cX7_law 163 = .ok (.istore_n 3, 1) := by decide +kernel
theorem dX7_law_164 : decode cX7_law 164 = .ok (.iinc 6 1, 3) := by decide +kernel
theorem dX7_law_167 : decode cX7_law 167 = .ok (.goto (-81), 3) := by decide +kernel
theorem dX7_law_170 : decode cX7_law 170 = .ok (.iload_n 2, 1) := by decide +kernel
theorem dX7_law_171 : decode cX7_law 171 = .ok (.iload 5, 2) := by decide +kernel
theorem dX7_law_173 : decode cX7_law 173 = .ok (.ifCond .eq 7, 3) := by decide +kernel
theorem dX7_law_176 : decode cX7_law 176 = .ok (.iconst 1, 1) := by decide +kernel
theorem dX7_law_177 : decode cX7_law 177 = .ok (.goto 4, 3) := by decide +kernel
theorem dX7_law_180 : decode cX7_law 180 = .ok (.iconst 0, 1) := by decide +kernel
theorem dX7_law_181 : decode cX7_law 181 = .ok (.iadd, 1) := by decide +kernel
theorem dX7_law_182 : decode cX7_law 182 = .ok (.istore_n 2, 1) := by decide +kernel
theorem dX7_law_183 : decode cX7_law 183 = .ok (.iinc 4 1, 3) := by decide +kernel
theorem dX7_law_186 : decode cX7_law 186 = .ok (.goto (-126), 3) := by decide +kernel
theorem dX7_law_189 : decode cX7_law 189 = .ok (.iload_n 1, 1) := by decide +kernel
theorem dX7_law_190 : decode cX7_law 190 = .ok (.ifCond .ne 7, 3) := by decide +kernel
theorem dX7_law_193 : decode cX7_law 193 = .ok (.iload_n 2, 1) := by decide +kernel
theorem dX7_law_194 : decode cX7_law 194 = .ok (.goto 4, 3) := by decide +kernel
theorem dX7_law_197 : decode cX7_law 197 = .ok (.iload_n 3, 1) := by decide +kernel
theorem dX7_law_198 : decode cX7_law 198 = .ok (.ireturn, 1) := by decide +kernel
theorem dX7_isFreed_0 : decode cX7_isFreed 0 = .ok (.iload_n 1, 1) := by decide +kernel
theorem dX7_isFreed_1 : decode cX7_isFreed 1 = .ok (.ifCond .lt 15, 3) := by decide +kernel
theorem dX7_isFreed_4 : decode cX7_isFreed 4 = .ok (.aload_n 0, 1) := by decide +kernel
theorem dX7_isFreed_5 : decode cX7_isFreed 5 = .ok (.iload_n 1, 1) := by decide +kernel
theorem dX7_isFreed_6 : decode cX7_isFreed 6 = .ok (.invokevirtual 109, 3) := by decide +kernel
theorem dX7_isFreed_9 : decode cX7_isFreed 9 = .ok (.ifCond .ne 7, 3) := by decide +kernel
theorem dX7_isFreed_12 : decode cX7_isFreed 12 = .ok (.iconst 1, 1) := by decide +kernel
theorem dX7_isFreed_13 : decode cX7_isFreed 13 = .ok (.goto 4, 3) := by decide +kernel
theorem dX7_isFreed_16 : decode cX7_isFreed 16 = .ok (.iconst 0, 1) := by decide +kernel
theorem dX7_isFreed_17 : decode cX7_isFreed 17 = .ok (.ireturn, 1) := by decide +kernel
theorem dX7_putAside_0 : decode cX7_putAside 0 = .ok (.iconst 0, 1) := by decide +kernel
theorem dX7_putAside_1 : decode cX7_putAside 1 = .ok (.istore_n 1, 1) := by decide +kernel
theorem dX7_putAside_2 : decode cX7_putAside 2 = .ok (.iload_n 1, 1) := by decide +kernel
theorem dX7_putAside_3 : decode cX7_putAside 3 = .ok (.sipush 790, 3) := by decide +kernel
theorem dX7_putAside_6 : decode cX7_putAside 6 = .ok (.if_icmp .ge 21, 3) := by decide +kernel
theorem dX7_putAside_9 : decode cX7_putAside 9 = .ok (.aload_n 0, 1) := by decide +kernel
theorem dX7_putAside_10 : decode cX7_putAside 10 = .ok (.getfield 26, 3) := by decide +kernel
theorem dX7_putAside_13 : decode cX7_putAside 13 = .ok (.iload_n 1, 1) := by decide +kernel
theorem dX7_putAside_14 : decode cX7_putAside 14 = .ok (.aload_n 0, 1) := by decide +kernel
theorem dX7_putAside_15 : decode cX7_putAside 15 = .ok (.getfield 7, 3) := by decide +kernel
theorem dX7_putAside_18 : decode cX7_putAside 18 = .ok (.iload_n 1, 1) := by decide +kernel
theorem dX7_putAside_19 : decode cX7_putAside 19 = .ok (.iaload, 1) := by decide +kernel
theorem dX7_putAside_20 : decode cX7_putAside 20 = .ok (.iastore, 1) := by decide +kernel
theorem dX7_putAside_21 : decode cX7_putAside 21 = .ok (.iinc 1 1, 3) := by decide +kernel
theorem dX7_putAside_24 : decode cX7_putAside 24 = .ok (.goto (-22), 3) := by decide +kernel
theorem dX7_putAside_27 : decode cX7_putAside 27 = .ok (.return_, 1) := by decide +kernel
theorem dX7_bringBack_0 : decode cX7_bringBack 0 = .ok (.iconst 0, 1) := by decide +kernel
theorem dX7_bringBack_1 : decode cX7_bringBack 1 = .ok (.istore_n 1, 1) := by decide +kernel
theorem dX7_bringBack_2 : decode cX7_bringBack 2 = .ok (.iload_n 1, 1) := by decide +kernel
theorem dX7_bringBack_3 : decode cX7_bringBack 3 = .ok (.sipush 790, 3) := by decide +kernel
theorem dX7_bringBack_6 : decode cX7_bringBack 6 = .ok (.if_icmp .ge 21, 3) := by decide +kernel
theorem dX7_bringBack_9 : decode cX7_bringBack 9 = .ok (.aload_n 0, 1) := by decide +kernel
theorem dX7_bringBack_10 : decode cX7_bringBack 10 = .ok (.getfield 7, 3) := by decide +kernel
theorem dX7_bringBack_13 : decode cX7_bringBack 13 = .ok (.iload_n 1, 1) := by decide +kernel
theorem dX7_bringBack_14 : decode cX7_bringBack 14 = .ok (.aload_n 0, 1) := by decide +kernel
theorem dX7_bringBack_15 : decode cX7_bringBack 15 = .ok (.getfield 26, 3) := by decide +kernel
theorem dX7_bringBack_18 : decode cX7_bringBack 18 = .ok (.iload_n 1, 1) := by decide +kernel
theorem dX7_bringBack_19 : decode cX7_bringBack 19 = .ok (.iaload, 1) := by decide +kernel
theorem dX7_bringBack_20 : decode cX7_bringBack 20 = .ok (.iastore, 1) := by decide +kernel
theorem dX7_bringBack_21 : decode cX7_bringBack 21 = .ok (.iinc 1 1, 3) := by decide +kernel
theorem dX7_bringBack_24 : decode cX7_bringBack 24 = .ok (.goto (-22), 3) := by decide +kernel
theorem dX7_bringBack_27 : decode cX7_bringBack 27 = .ok (.return_, 1) := by decide +kernel
theorem dX7_putBase_0 : decode cX7_putBase 0 = .ok (.iconst 0, 1) := by decide +kernel
theorem dX7_putBase_1 : decode cX7_putBase 1 = .ok (.istore_n 1, 1) := by decide +kernel
theorem dX7_putBase_2 : decode cX7_putBase 2 = .ok (.iload_n 1, 1) := by decide +kernel
theorem dX7_putBase_3 : decode cX7_putBase 3 = .ok (.sipush 790, 3) := by decide +kernel
theorem dX7_putBase_6 : decode cX7_putBase 6 = .ok (.if_icmp .ge 21, 3) := by decide +kernel
theorem dX7_putBase_9 : decode cX7_putBase 9 = .ok (.aload_n 0, 1) := by decide +kernel
theorem dX7_putBase_10 : decode cX7_putBase 10 = .ok (.getfield 29, 3) := by decide +kernel
theorem dX7_putBase_13 : decode cX7_putBase 13 = .ok (.iload_n 1, 1) := by decide +kernel
theorem dX7_putBase_14 : decode cX7_putBase 14 = .ok (.aload_n 0, 1) := by decide +kernel
theorem dX7_putBase_15 : decode cX7_putBase 15 = .ok (.getfield 7, 3) := by decide +kernel
theorem dX7_putBase_18 : decode cX7_putBase 18 = .ok (.iload_n 1, 1) := by decide +kernel
theorem dX7_putBase_19 : decode cX7_putBase 19 = .ok (.iaload, 1) := by decide +kernel
theorem dX7_putBase_20 : decode cX7_putBase 20 = .ok (.iastore, 1) := by decide +kernel
theorem dX7_putBase_21 : decode cX7_putBase 21 = .ok (.iinc 1 1, 3) := by decide +kernel
theorem dX7_putBase_24 : decode cX7_putBase 24 = .ok (.goto (-22), 3) := by decide +kernel
theorem dX7_putBase_27 : decode cX7_putBase 27 = .ok (.return_, 1) := by decide +kernel
theorem dX7_since_0 : decode cX7_since 0 = .ok (.aload_n 0, 1) := by decide +kernel
theorem dX7_since_1 : decode cX7_since 1 = .ok (.getfield 7, 3) := by decide +kernel
theorem dX7_since_4 : decode cX7_since 4 = .ok (.iload_n 1, 1) := by decide +kernel
theorem dX7_since_5 : decode cX7_since 5 = .ok (.iaload, 1) := by decide +kernel
theorem dX7_since_6 : decode cX7_since 6 = .ok (.aload_n 0, 1) := by decide +kernel
theorem dX7_since_7 : decode cX7_since 7 = .ok (.getfield 29, 3) := by decide +kernel
theorem dX7_since_10 : decode cX7_since 10 = .ok (.iload_n 1, 1) := by decide +kernel
theorem dX7_since_11 : decode cX7_since 11 = .ok (.iaload, 1) := by decide +kernel
theorem dX7_since_12 : decode cX7_since 12 = .ok (.isub, 1) := by decide +kernel
theorem dX7_since_13 : decode cX7_since 13 = .ok (.ireturn, 1) := by decide +kernel
theorem dX7_cellsFree_0 : decode cX7_cellsFree 0 = .ok (.iconst 0, 1) := by decide +kernel
theorem dX7_cellsFree_1 : decode cX7_cellsFree 1 = .ok (.istore_n 1, 1) := by decide +kernel
theorem dX7_cellsFree_2 : decode cX7_cellsFree 2 = .ok (.iconst 0, 1) := by decide +kernel
theorem dX7_cellsFree_3 : decode cX7_cellsFree 3 = .ok (.istore_n 2, 1) := by decide +kernel
theorem dX7_cellsFree_4 : decode cX7_cellsFree 4 = .ok (.iload_n 2, 1) := by decide +kernel
theorem dX7_cellsFree_5 : decode cX7_cellsFree 5 = .ok (.iconst 3, 1) := by decide +kernel
theorem dX7_cellsFree_6 : decode cX7_cellsFree 6 = .ok (.if_icmp .ge 23, 3) := by decide +kernel
theorem dX7_cellsFree_9 : decode cX7_cellsFree 9 = .ok (.iload_n 1, 1) := by decide +kernel
theorem dX7_cellsFree_10 : decode cX7_cellsFree 10 = .ok (.iload_n 2, 1) := by decide +kernel
theorem dX7_cellsFree_11 : decode cX7_cellsFree 11 = .ok (.invokestatic 280, 3) := by decide +kernel
theorem dX7_cellsFree_14 : decode cX7_cellsFree 14 = .ok (.aload_n 0, 1) := by decide +kernel
theorem dX7_cellsFree_15 : decode cX7_cellsFree 15 = .ok (.iload_n 2, 1) := by decide +kernel
theorem dX7_cellsFree_16 : decode cX7_cellsFree 16 = .ok (.iconst 0, 1) := by decide +kernel
theorem dX7_cellsFree_17 : decode cX7_cellsFree 17 = .ok (.invokevirtual 119, 3) := by decide +kernel
theorem dX7_cellsFree_20 : decode cX7_cellsFree 20 = .ok (.imul, 1) := by decide +kernel
theorem dX7_cellsFree_21 : decode cX7_cellsFree 21 = .ok (.iadd, 1) := by decide +kernel
theorem dX7_cellsFree_22 : decode cX7_cellsFree 22 = .ok (.istore_n 1, 1) := by decide +kernel
theorem dX7_cellsFree_23 : decode cX7_cellsFree 23 = .ok (.iinc 2 1, 3) := by decide +kernel
theorem dX7_cellsFree_26 : decode cX7_cellsFree 26 = .ok (.goto (-22), 3) := by decide +kernel
theorem dX7_cellsFree_29 : decode cX7_cellsFree 29 = .ok (.iload_n 1, 1) := by decide +kernel
theorem dX7_cellsFree_30 : decode cX7_cellsFree 30 = .ok (.ireturn, 1) := by decide +kernel
theorem dX7_end_0 : decode cX7_end 0 = .ok (.iload_n 1, 1) := by decide +kernel
theorem dX7_end_1 : decode cX7_end 1 = .ok (.iconst 0, 1) := by decide +kernel
theorem dX7_end_2 : decode cX7_end 2 = .ok (.iconst 3, 1) := by decide +kernel
theorem dX7_end_3 : decode cX7_end 3 = .ok (.invokestatic 94, 3) := by decide +kernel
theorem dX7_end_6 : decode cX7_end 6 = .ok (.ifCond .ne 5, 3) := by decide +kernel
theorem dX7_end_9 : decode cX7_end 9 = .ok (.iconst (-1), 1) := by decide +kernel
theorem dX7_end_10 : decode cX7_end 10 = .ok (.ireturn, 1) := by decide +kernel
theorem dX7_end_11 : decode cX7_end 11 = .ok (.aload_n 0, 1) := by decide +kernel
theorem dX7_end_12 : decode cX7_end 12 = .ok (.invokevirtual 283, 3) := by decide +kernel
theorem dX7_end_15 : decode cX7_end 15 = .ok (.aload_n 0, 1) := by decide +kernel
theorem dX7_end_16 : decode cX7_end 16 = .ok (.invokevirtual 164, 3) := by decide +kernel
theorem dX7_end_19 : decode cX7_end 19 = .ok (.istore_n 2, 1) := by decide +kernel
theorem dX7_end_20 : decode cX7_end 20 = .ok (.aload_n 0, 1) := by decide +kernel
theorem dX7_end_21 : decode cX7_end 21 = .ok (.invokevirtual 286, 3) := by decide +kernel
theorem dX7_end_24 : decode cX7_end 24 = .ok (.istore_n 3, 1) := by decide +kernel
theorem dX7_end_25 : decode cX7_end 25 = .ok (.aload_n 0, 1) := by decide +kernel
theorem dX7_end_26 : decode cX7_end 26 = .ok (.invokevirtual 181, 3) := by decide +kernel
theorem dX7_end_29 : decode cX7_end 29 = .ok (.ifCond .ne 7, 3) := by decide +kernel
theorem dX7_end_32 : decode cX7_end 32 = .ok (.aload_n 0, 1) := by decide +kernel
theorem dX7_end_33 : decode cX7_end 33 = .ok (.invokevirtual 207, 3) := by decide +kernel
theorem dX7_end_36 : decode cX7_end 36 = .ok (.aload_n 0, 1) := by decide +kernel
theorem dX7_end_37 : decode cX7_end 37 = .ok (.ldc 188, 2) := by decide +kernel
theorem dX7_end_39 : decode cX7_end 39 = .ok (.invokevirtual 189, 3) := by decide +kernel
theorem dX7_end_42 : decode cX7_end 42 = .ok (.istore 4, 2) := by decide +kernel
theorem dX7_end_44 : decode cX7_end 44 = .ok (.iload_n 2, 1) := by decide +kernel
theorem dX7_end_45 : decode cX7_end 45 = .ok (.aload_n 0, 1) := by decide +kernel
theorem dX7_end_46 : decode cX7_end 46 = .ok (.invokevirtual 164, 3) := by decide +kernel
theorem dX7_end_49 : decode cX7_end 49 = .ok (.isub, 1) := by decide +kernel
theorem dX7_end_50 : decode cX7_end 50 = .ok (.istore 5, 2) := by decide +kernel
theorem dX7_end_52 : decode cX7_end 52 = .ok (.aload_n 0, 1) := by decide +kernel
theorem dX7_end_53 : decode cX7_end 53 = .ok (.invokevirtual 286, 3) := by decide +kernel
theorem dX7_end_56 : decode cX7_end 56 = .ok (.iload_n 3, 1) := by decide +kernel
theorem dX7_end_57 : decode cX7_end 57 = .ok (.isub, 1) := by decide +kernel
theorem dX7_end_58 : decode cX7_end 58 = .ok (.istore 6, 2) := by decide +kernel
theorem dX7_end_60 : decode cX7_end 60 = .ok (.aload_n 0, 1) := by decide +kernel
theorem dX7_end_61 : decode cX7_end 61 = .ok (.getfield 7, 3) := by decide +kernel
theorem dX7_end_64 : decode cX7_end 64 = .ok (.sipush 732, 3) := by decide +kernel
theorem dX7_end_67 : decode cX7_end 67 = .ok (.iaload, 1) := by decide +kernel
theorem dX7_end_68 : decode cX7_end 68 = .ok (.aload_n 0, 1) := by decide +kernel
theorem dX7_end_69 : decode cX7_end 69 = .ok (.getfield 26, 3) := by decide +kernel
theorem dX7_end_72 : decode cX7_end 72 = .ok (.sipush 732, 3) := by decide +kernel
theorem dX7_end_75 : decode cX7_end 75 = .ok (.iaload, 1) := by decide +kernel
theorem dX7_end_76 : decode cX7_end 76 = .ok (.isub, 1) := by decide +kernel
theorem dX7_end_77 : decode cX7_end 77 = .ok (.istore 7, 2) := by decide +kernel
theorem dX7_end_79 : decode cX7_end 79 = .ok (.aload_n 0, 1) := by decide +kernel
theorem dX7_end_80 : decode cX7_end 80 = .ok (.invokevirtual 289, 3) := by decide +kernel
theorem dX7_end_83 : decode cX7_end 83 = .ok (.iload_n 1, 1) := by decide +kernel
theorem dX7_end_84 : decode cX7_end 84 = .ok (.ifCond .ne 8, 3) := by decide +kernel
theorem dX7_end_87 : decode cX7_end 87 = .ok (.iload 4, 2) := by decide +kernel
theorem dX7_end_89 : decode cX7_end 89 = .ok (.goto 25, 3) := by decide +kernel
theorem dX7_end_92 : decode cX7_end 92 = .ok (.iload_n 1, 1) := by decide +kernel
theorem dX7_end_93 : decode cX7_end 93 = .ok (.iconst 1, 1) := by decide +kernel
theorem dX7_end_94 : decode cX7_end 94 = .ok (.if_icmp .ne 8, 3) := by decide +kernel
theorem dX7_end_97 : decode cX7_end 97 = .ok (.iload 5, 2) := by decide +kernel
theorem dX7_end_99 : decode cX7_end 99 = .ok (.goto 15, 3) := by decide +kernel
theorem dX7_end_102 : decode cX7_end 102 = .ok (.iload_n 1, 1) := by decide +kernel
theorem dX7_end_103 : decode cX7_end 103 = .ok (.iconst 2, 1) := by decide +kernel
theorem dX7_end_104 : decode cX7_end 104 = .ok (.if_icmp .ne 8, 3) := by decide +kernel
theorem dX7_end_107 : decode cX7_end 107 = .ok (.iload 6, 2) := by decide +kernel
theorem dX7_end_109 : decode cX7_end 109 = .ok (.goto 5, 3) := by decide +kernel
theorem dX7_end_112 : decode cX7_end 112 = .ok (.iload 7, 2) := by decide +kernel
theorem dX7_end_114 : decode cX7_end 114 = .ok (.ireturn, 1) := by decide +kernel
theorem dX7_madeUpTo_0 : decode cX7_madeUpTo 0 = .ok (.aload_n 0, 1) := by decide +kernel
theorem dX7_madeUpTo_1 : decode cX7_madeUpTo 1 = .ok (.invokevirtual 292, 3) := by decide +kernel
theorem dX7_madeUpTo_4 : decode cX7_madeUpTo 4 = .ok (.iconst 0, 1) := by decide +kernel
theorem dX7_madeUpTo_5 : decode cX7_madeUpTo 5 = .ok (.istore 4, 2) := by decide +kernel
theorem dX7_madeUpTo_7 : decode cX7_madeUpTo 7 = .ok (.iload 4, 2) := by decide +kernel
theorem dX7_madeUpTo_9 : decode cX7_madeUpTo 9 = .ok (.iload_n 1, 1) := by decide +kernel
theorem dX7_madeUpTo_10 : decode cX7_madeUpTo 10 = .ok (.if_icmp .ge 38, 3) := by decide +kernel
theorem dX7_madeUpTo_13 : decode cX7_madeUpTo 13 = .ok (.aload_n 0, 1) := by decide +kernel
theorem dX7_madeUpTo_14 : decode cX7_madeUpTo 14 = .ok (.iconst 0, 1) := by decide +kernel
theorem dX7_madeUpTo_15 : decode cX7_madeUpTo 15 = .ok (.iload_n 2, 1) := by decide +kernel
theorem dX7_madeUpTo_16 : decode cX7_madeUpTo 16 = .ok (.invokevirtual 222, 3) := by decide +kernel
theorem dX7_madeUpTo_19 : decode cX7_madeUpTo 19 = .ok (.ifCond .ge 6, 3) := by decide +kernel
theorem dX7_madeUpTo_22 : decode cX7_madeUpTo 22 = .ok (.iload 4, 2) := by decide +kernel
theorem dX7_madeUpTo_24 : decode cX7_madeUpTo 24 = .ok (.ireturn, 1) := by decide +kernel
theorem dX7_madeUpTo_25 : decode cX7_madeUpTo 25 = .ok (.iload_n 3, 1) := by decide +kernel
theorem dX7_madeUpTo_26 : decode cX7_madeUpTo 26 = .ok (.ifCond .ne 16, 3) := by decide +kernel
theorem dX7_madeUpTo_29 : decode cX7_madeUpTo 29 = .ok (.aload_n 0, 1) := by decide +kernel
theorem dX7_madeUpTo_30 : decode cX7_madeUpTo 30 = .ok (.sipush 731, 3) := by decide +kernel
theorem dX7_madeUpTo_33 : decode cX7_madeUpTo 33 = .ok (.invokevirtual 295, 3) := by decide +kernel
theorem dX7_madeUpTo_36 : decode cX7_madeUpTo 36 = .ok (.ifCond .le 6, 3) := by decide +kernel
theorem dX7_madeUpTo_39 : decode cX7_madeUpTo 39 = .ok (.iload 4, 2) := by decide +kernel
theorem dX7_madeUpTo_41 : decode cX7_madeUpTo 41 = .ok (.ireturn, 1) := by decide +kernel
theorem dX7_madeUpTo_42 : decode cX7_madeUpTo 42 = .ok (.iinc 4 1, 3) := by decide +kernel
theorem dX7_madeUpTo_45 : decode cX7_madeUpTo 45 = .ok (.goto (-38), 3) := by decide +kernel
theorem dX7_madeUpTo_48 : decode cX7_madeUpTo 48 = .ok (.iload_n 1, 1) := by decide +kernel
theorem dX7_madeUpTo_49 : decode cX7_madeUpTo 49 = .ok (.ireturn, 1) := by decide +kernel
theorem dX7_room_0 : decode cX7_room 0 = .ok (.iload_n 1, 1) := by decide +kernel
theorem dX7_room_1 : decode cX7_room 1 = .ok (.iconst 0, 1) := by decide +kernel
theorem dX7_room_2 : decode cX7_room 2 = .ok (.bipush 7, 2) := by decide +kernel
theorem dX7_room_4 : decode cX7_room 4 = .ok (.invokestatic 94, 3) := by decide +kernel
theorem dX7_room_7 : decode cX7_room 7 = .ok (.ifCond .eq 12, 3) := by decide +kernel
theorem dX7_room_10 : decode cX7_room 10 = .ok (.iload_n 2, 1) := by decide +kernel
theorem dX7_room_11 : decode cX7_room 11 = .ok (.iconst 0, 1) := by decide +kernel
theorem dX7_room_12 : decode cX7_room 12 = .ok (.iconst 1, 1) := by decide +kernel
theorem dX7_room_13 : decode cX7_room 13 = .ok (.invokestatic 94, 3) := by decide +kernel
theorem dX7_room_16 : decode cX7_room 16 = .ok (.ifCond .ne 5, 3) := by decide +kernel
theorem dX7_room_19 : decode cX7_room 19 = .ok (.iconst (-1), 1) := by decide +kernel
theorem dX7_room_20 : decode cX7_room 20 = .ok (.ireturn, 1) := by decide +kernel
theorem dX7_room_21 : decode cX7_room 21 = .ok (.aload_n 0, 1) := by decide +kernel
theorem dX7_room_22 : decode cX7_room 22 = .ok (.invokevirtual 283, 3) := by decide +kernel
theorem dX7_room_25 : decode cX7_room 25 = .ok (.aload_n 0, 1) := by decide +kernel
theorem dX7_room_26 : decode cX7_room 26 = .ok (.bipush 64, 2) := by decide +kernel
theorem dX7_room_28 : decode cX7_room 28 = .ok (.iload_n 1, 1) := by decide +kernel
theorem dX7_room_29 : decode cX7_room 29 = .ok (.iload_n 2, 1) := by decide +kernel
theorem dX7_room_30 : decode cX7_room 30 = .ok (.iconst 1, 1) := by decide +kernel
theorem dX7_room_31 : decode cX7_room 31 = .ok (.if_icmp .ne 7, 3) := by decide +kernel
theorem dX7_room_34 : decode cX7_room 34 = .ok (.iconst 1, 1) := by decide +kernel
theorem dX7_room_35 : decode cX7_room 35 = .ok (.goto 4, 3) := by decide +kernel
theorem dX7_room_38 : decode cX7_room 38 = .ok (.iconst 0, 1) := by decide +kernel
theorem dX7_room_39 : decode cX7_room 39 = .ok (.invokevirtual 298, 3) := by decide +kernel
theorem dX7_room_42 : decode cX7_room 42 = .ok (.istore_n 3, 1) := by decide +kernel
theorem dX7_room_43 : decode cX7_room 43 = .ok (.aload_n 0, 1) := by decide +kernel
theorem dX7_room_44 : decode cX7_room 44 = .ok (.invokevirtual 289, 3) := by decide +kernel
theorem dX7_room_47 : decode cX7_room 47 = .ok (.iload_n 3, 1) := by decide +kernel
theorem dX7_room_48 : decode cX7_room 48 = .ok (.ireturn, 1) := by decide +kernel
theorem dX7_pace_0 : decode cX7_pace 0 = .ok (.iload_n 1, 1) := by decide +kernel
theorem dX7_pace_1 : decode cX7_pace 1 = .ok (.iconst 0, 1) := by decide +kernel
theorem dX7_pace_2 : decode cX7_pace 2 = .ok (.bipush 7, 2) := by decide +kernel
theorem dX7_pace_4 : decode cX7_pace 4 = .ok (.invokestatic 94, 3) := by decide +kernel
theorem dX7_pace_7 : decode cX7_pace 7 = .ok (.ifCond .eq 13, 3) := by decide +kernel
theorem dX7_pace_10 : decode cX7_pace 10 = .ok (.iload_n 2, 1) := by decide +kernel
theorem dX7_pace_11 : decode cX7_pace 11 = .ok (.iconst 1, 1) := by decide +kernel
theorem dX7_pace_12 : decode cX7_pace 12 = .ok (.bipush 64, 2) := by decide +kernel
theorem dX7_pace_14 : decode cX7_pace 14 = .ok (.invokestatic 94, 3) := by decide +kernel
theorem dX7_pace_17 : decode cX7_pace 17 = .ok (.ifCond .ne 5, 3) := by decide +kernel
theorem dX7_pace_20 : decode cX7_pace 20 = .ok (.iconst (-1), 1) := by decide +kernel
theorem dX7_pace_21 : decode cX7_pace 21 = .ok (.ireturn, 1) := by decide +kernel
theorem dX7_pace_22 : decode cX7_pace 22 = .ok (.aload_n 0, 1) := by decide +kernel
theorem dX7_pace_23 : decode cX7_pace 23 = .ok (.invokevirtual 283, 3) := by decide +kernel
theorem dX7_pace_26 : decode cX7_pace 26 = .ok (.iconst (-1), 1) := by decide +kernel
theorem dX7_pace_27 : decode cX7_pace 27 = .ok (.istore_n 3, 1) := by decide +kernel
theorem dX7_pace_28 : decode cX7_pace 28 = .ok (.iconst 0, 1) := by decide +kernel
theorem dX7_pace_29 : decode cX7_pace 29 = .ok (.istore 4, 2) := by decide +kernel
theorem dX7_pace_31 : decode cX7_pace 31 = .ok (.iload 4, 2) := by decide +kernel
theorem dX7_pace_33 : decode cX7_pace 33 = .ok (.bipush 16, 2) := by decide +kernel
theorem dX7_pace_35 : decode cX7_pace 35 = .ok (.if_icmp .gt 41, 3) := by decide +kernel
theorem dX7_pace_38 : decode cX7_pace 38 = .ok (.iload_n 3, 1) := by decide +kernel
theorem dX7_pace_39 : decode cX7_pace 39 = .ok (.ifCond .ge 37, 3) := by decide +kernel
theorem dX7_pace_42 : decode cX7_pace 42 = .ok (.aload_n 0, 1) := by decide +kernel
theorem dX7_pace_43 : decode cX7_pace 43 = .ok (.getfield 7, 3) := by decide +kernel
theorem dX7_pace_46 : decode cX7_pace 46 = .ok (.sipush 737, 3) := by decide +kernel
theorem dX7_pace_49 : decode cX7_pace 49 = .ok (.iload 4, 2) := by decide +kernel
theorem dX7_pace_51 : decode cX7_pace 51 = .ok (.iastore, 1) := by decide +kernel
theorem dX7_pace_52 : decode cX7_pace 52 = .ok (.aload_n 0, 1) := by decide +kernel
theorem dX7_pace_53 : decode cX7_pace 53 = .ok (.iload_n 2, 1) := by decide +kernel
theorem dX7_pace_54 : decode cX7_pace 54 = .ok (.iload_n 1, 1) := by decide +kernel
theorem dX7_pace_55 : decode cX7_pace 55 = .ok (.iconst 0, 1) := by decide +kernel
theorem dX7_pace_56 : decode cX7_pace 56 = .ok (.invokevirtual 298, 3) := by decide +kernel
theorem dX7_pace_59 : decode cX7_pace 59 = .ok (.iload_n 2, 1) := by decide +kernel
theorem dX7_pace_60 : decode cX7_pace 60 = .ok (.if_icmp .ne 6, 3) := by decide +kernel
theorem dX7_pace_63 : decode cX7_pace 63 = .ok (.iload 4, 2) := by decide +kernel
theorem dX7_pace_65 : decode cX7_pace 65 = .ok (.istore_n 3, 1) := by decide +kernel
theorem dX7_pace_66 : decode cX7_pace 66 = .ok (.aload_n 0, 1) := by decide +kernel
theorem dX7_pace_67 : decode cX7_pace 67 = .ok (.invokevirtual 289, 3) := by decide +kernel
theorem dX7_pace_70 : decode cX7_pace 70 = .ok (.iinc 4 1, 3) := by decide +kernel
theorem dX7_pace_73 : decode cX7_pace 73 = .ok (.goto (-42), 3) := by decide +kernel
theorem dX7_pace_76 : decode cX7_pace 76 = .ok (.iload_n 3, 1) := by decide +kernel
theorem dX7_pace_77 : decode cX7_pace 77 = .ok (.ireturn, 1) := by decide +kernel
theorem dX7_draw_0 : decode cX7_draw 0 = .ok (.aload_n 0, 1) := by decide +kernel
theorem dX7_draw_1 : decode cX7_draw 1 = .ok (.sipush 137, 3) := by decide +kernel
theorem dX7_draw_4 : decode cX7_draw 4 = .ok (.aload_n 0, 1) := by decide +kernel
theorem dX7_draw_5 : decode cX7_draw 5 = .ok (.getfield 302, 3) := by decide +kernel
theorem dX7_draw_8 : decode cX7_draw 8 = .ok (.imul, 1) := by decide +kernel
theorem dX7_draw_9 : decode cX7_draw 9 = .ok (.bipush 71, 2) := by decide +kernel
theorem dX7_draw_11 : decode cX7_draw 11 = .ok (.iadd, 1) := by decide +kernel
theorem dX7_draw_12 : decode cX7_draw 12 = .ok (.sipush 10007, 3) := by decide +kernel
theorem dX7_draw_15 : decode cX7_draw 15 = .ok (.irem, 1) := by decide +kernel
theorem dX7_draw_16 : decode cX7_draw 16 = .ok (.putfield 302, 3) := by decide +kernel
theorem dX7_draw_19 : decode cX7_draw 19 = .ok (.aload_n 0, 1) := by decide +kernel
theorem dX7_draw_20 : decode cX7_draw 20 = .ok (.getfield 302, 3) := by decide +kernel
theorem dX7_draw_23 : decode cX7_draw 23 = .ok (.iload_n 1, 1) := by decide +kernel
theorem dX7_draw_24 : decode cX7_draw 24 = .ok (.irem, 1) := by decide +kernel
theorem dX7_draw_25 : decode cX7_draw 25 = .ok (.ireturn, 1) := by decide +kernel
theorem dX7_beginApart_0 : decode cX7_beginApart 0 = .ok (.aload_n 0, 1) := by decide +kernel
theorem dX7_beginApart_1 : decode cX7_beginApart 1 = .ok (.ldc 188, 2) := by decide +kernel
theorem dX7_beginApart_3 : decode cX7_beginApart 3 = .ok (.invokevirtual 189, 3) := by decide +kernel
theorem dX7_beginApart_6 : decode cX7_beginApart 6 = .ok (.pop, 1) := by decide +kernel
theorem dX7_beginApart_7 : decode cX7_beginApart 7 = .ok (.aload_n 0, 1) := by decide +kernel
theorem dX7_beginApart_8 : decode cX7_beginApart 8 = .ok (.getfield 7, 3) := by decide +kernel
theorem dX7_beginApart_11 : decode cX7_beginApart 11 = .ok (.sipush 735, 3) := by decide +kernel
theorem dX7_beginApart_14 : decode cX7_beginApart 14 = .ok (.iload_n 1, 1) := by decide +kernel
theorem dX7_beginApart_15 : decode cX7_beginApart 15 = .ok (.iastore, 1) := by decide +kernel
theorem dX7_beginApart_16 : decode cX7_beginApart 16 = .ok (.aload_n 0, 1) := by decide +kernel
theorem dX7_beginApart_17 : decode cX7_beginApart 17 = .ok (.invokevirtual 292, 3) := by decide +kernel
theorem dX7_beginApart_20 : decode cX7_beginApart 20 = .ok (.return_, 1) := by decide +kernel
theorem dX7_goOnce_0 : decode cX7_goOnce 0 = .ok (.aload_n 0, 1) := by decide +kernel
theorem dX7_goOnce_1 : decode cX7_goOnce 1 = .ok (.bipush 8, 2) := by decide +kernel
theorem dX7_goOnce_3 : decode cX7_goOnce 3 = .ok (.invokevirtual 305, 3) := by decide +kernel
theorem dX7_goOnce_6 : decode cX7_goOnce 6 = .ok (.istore_n 1, 1) := by decide +kernel
theorem dX7_goOnce_7 : decode cX7_goOnce 7 = .ok (.aload_n 0, 1) := by decide +kernel
theorem dX7_goOnce_8 : decode cX7_goOnce 8 = .ok (.bipush 6, 2) := by decide +kernel
theorem dX7_goOnce_10 : decode cX7_goOnce 10 = .ok (.invokevirtual 305, 3) := by decide +kernel
theorem dX7_goOnce_13 : decode cX7_goOnce 13 = .ok (.istore_n 2, 1) := by decide +kernel
theorem dX7_goOnce_14 : decode cX7_goOnce 14 = .ok (.aload_n 0, 1) := by decide +kernel
theorem dX7_goOnce_15 : decode cX7_goOnce 15 = .ok (.bipush 6, 2) := by decide +kernel
theorem dX7_goOnce_17 : decode cX7_goOnce 17 = .ok (.invokevirtual 305, 3) := by decide +kernel
theorem dX7_goOnce_20 : decode cX7_goOnce 20 = .ok (.istore_n 3, 1) := by decide +kernel
theorem dX7_goOnce_21 : decode cX7_goOnce 21 = .ok (.aload_n 0, 1) := by decide +kernel
theorem dX7_goOnce_22 : decode cX7_goOnce 22 = .ok (.bipush 6, 2) := by decide +kernel
theorem dX7_goOnce_24 : decode cX7_goOnce 24 = .ok (.invokevirtual 305, 3) := by decide +kernel
theorem dX7_goOnce_27 : decode cX7_goOnce 27 = .ok (.istore 4, 2) := by decide +kernel
theorem dX7_goOnce_29 : decode cX7_goOnce 29 = .ok (.iload_n 1, 1) := by decide +kernel
theorem dX7_goOnce_30 : decode cX7_goOnce 30 = .ok (.iconst 3, 1) := by decide +kernel
theorem dX7_goOnce_31 : decode cX7_goOnce 31 = .ok (.if_icmp .ge 17, 3) := by decide +kernel
theorem dX7_goOnce_34 : decode cX7_goOnce 34 = .ok (.aload_n 0, 1) := by decide +kernel
theorem dX7_goOnce_35 : decode cX7_goOnce 35 = .ok (.aload_n 0, 1) := by decide +kernel
theorem dX7_goOnce_36 : decode cX7_goOnce 36 = .ok (.iload_n 2, 1) := by decide +kernel
theorem dX7_goOnce_37 : decode cX7_goOnce 37 = .ok (.iload 4, 2) := by decide +kernel
theorem dX7_goOnce_39 : decode cX7_goOnce 39 = .ok (.invokevirtual 222, 3) := by decide +kernel
theorem dX7_goOnce_42 : decode cX7_goOnce 42 = .ok (.putfield 308, 3) := by decide +kernel
theorem dX7_goOnce_45 : decode cX7_goOnce 45 = .ok (.goto 100, 3) := by decide +kernel
theorem dX7_goOnce_48 : decode cX7_goOnce 48 = .ok (.iload_n 1, 1) := by decide +kernel
theorem dX7_goOnce_49 : decode cX7_goOnce 49 = .ok (.iconst 3, 1) := by decide +kernel
theorem dX7_goOnce_50 : decode cX7_goOnce 50 = .ok (.if_icmp .ne 29, 3) := by decide +kernel
theorem dX7_goOnce_53 : decode cX7_goOnce 53 = .ok (.aload_n 0, 1) := by decide +kernel
theorem dX7_goOnce_54 : decode cX7_goOnce 54 = .ok (.iload_n 2, 1) := by decide +kernel
theorem dX7_goOnce_55 : decode cX7_goOnce 55 = .ok (.iload_n 3, 1) := by decide +kernel
theorem dX7_goOnce_56 : decode cX7_goOnce 56 = .ok (.iload 4, 2) := by decide +kernel
theorem dX7_goOnce_58 : decode cX7_goOnce 58 = .ok (.invokevirtual 228, 3) := by decide +kernel
theorem dX7_goOnce_61 : decode cX7_goOnce 61 = .ok (.ifCond .eq 18, 3) := by decide +kernel
theorem dX7_goOnce_64 : decode cX7_goOnce 64 = .ok (.aload_n 0, 1) := by decide +kernel
theorem dX7_goOnce_65 : decode cX7_goOnce 65 = .ok (.aload_n 0, 1) := by decide +kernel
theorem dX7_goOnce_66 : decode cX7_goOnce 66 = .ok (.iload_n 2, 1) := by decide +kernel
theorem dX7_goOnce_67 : decode cX7_goOnce 67 = .ok (.iload_n 3, 1) := by decide +kernel
theorem dX7_goOnce_68 : decode cX7_goOnce 68 = .ok (.iload 4, 2) := by decide +kernel
theorem dX7_goOnce_70 : decode cX7_goOnce 70 = .ok (.invokevirtual 231, 3) := by decide +kernel
theorem dX7_goOnce_73 : decode cX7_goOnce 73 = .ok (.putfield 308, 3) := by decide +kernel
theorem dX7_goOnce_76 : decode cX7_goOnce 76 = .ok (.goto 69, 3) := by decide +kernel
theorem dX7_goOnce_79 : decode cX7_goOnce 79 = .ok (.iload_n 1, 1) := by decide +kernel
theorem dX7_goOnce_80 : decode cX7_goOnce 80 = .ok (.iconst 4, 1) := by decide +kernel
theorem dX7_goOnce_81 : decode cX7_goOnce 81 = .ok (.iconst 5, 1) := by decide +kernel
theorem dX7_goOnce_82 : decode cX7_goOnce 82 = .ok (.invokestatic 94, 3) := by decide +kernel
theorem dX7_goOnce_85 : decode cX7_goOnce 85 = .ok (.ifCond .eq 25, 3) := by decide +kernel
theorem dX7_goOnce_88 : decode cX7_goOnce 88 = .ok (.aload_n 0, 1) := by decide +kernel
theorem dX7_goOnce_89 : decode cX7_goOnce 89 = .ok (.iload_n 2, 1) := by decide +kernel
theorem dX7_goOnce_90 : decode cX7_goOnce 90 = .ok (.iload 4, 2) := by decide +kernel
theorem dX7_goOnce_92 : decode cX7_goOnce 92 = .ok (.iload_n 3, 1) := by decide +kernel
theorem dX7_goOnce_93 : decode cX7_goOnce 93 = .ok (.invokevirtual 241, 3) := by decide +kernel
theorem dX7_goOnce_96 : decode cX7_goOnce 96 = .ok (.ifCond .eq 14, 3) := by decide +kernel
theorem dX7_goOnce_99 : decode cX7_goOnce 99 = .ok (.aload_n 0, 1) := by decide +kernel
theorem dX7_goOnce_100 : decode cX7_goOnce 100 = .ok (.iload_n 2, 1) := by decide +kernel
theorem dX7_goOnce_101 : decode cX7_goOnce 101 = .ok (.iload 4, 2) := by decide +kernel
theorem dX7_goOnce_103 : decode cX7_goOnce 103 = .ok (.iload_n 3, 1) := by decide +kernel
theorem dX7_goOnce_104 : decode cX7_goOnce 104 = .ok (.invokevirtual 244, 3) := by decide +kernel
theorem dX7_goOnce_107 : decode cX7_goOnce 107 = .ok (.goto 38, 3) := by decide +kernel
theorem dX7_goOnce_110 : decode cX7_goOnce 110 = .ok (.iload_n 1, 1) := by decide +kernel
theorem dX7_goOnce_111 : decode cX7_goOnce 111 = .ok (.iconst 5, 1) := by decide +kernel
theorem dX7_goOnce_112 : decode cX7_goOnce 112 = .ok (.if_icmp .le 33, 3) := by decide +kernel
theorem dX7_goOnce_115 : decode cX7_goOnce 115 = .ok (.aload_n 0, 1) := by decide +kernel
theorem dX7_goOnce_116 : decode cX7_goOnce 116 = .ok (.getfield 7, 3) := by decide +kernel
theorem dX7_goOnce_119 : decode cX7_goOnce 119 = .ok (.sipush 715, 3) := by decide +kernel
theorem dX7_goOnce_122 : decode cX7_goOnce 122 = .ok (.iload_n 2, 1) := by decide +kernel
theorem dX7_goOnce_123 : decode cX7_goOnce 123 = .ok (.iadd, 1) := by decide +kernel
theorem dX7_goOnce_124 : decode cX7_goOnce 124 = .ok (.iload_n 1, 1) := by decide +kernel
theorem dX7_goOnce_125 : decode cX7_goOnce 125 = .ok (.bipush 6, 2) := by decide +kernel
theorem dX7_goOnce_127 : decode cX7_goOnce 127 = .ok (.if_icmp .ne 16, 3) := by decide +kernel
theorem dX7_goOnce_130 : decode cX7_goOnce 130 = .ok (.aload_n 0, 1) := by decide +kernel
theorem dX7_goOnce_131 : decode cX7_goOnce 131 = .ok (.getfield 7, 3) := by decide +kernel
theorem dX7_goOnce_134 : decode cX7_goOnce 134 = .ok (.sipush 715, 3) := by decide +kernel
theorem dX7_goOnce_137 : decode cX7_goOnce 137 = .ok (.iload_n 3, 1) := by decide +kernel
theorem dX7_goOnce_138 : decode cX7_goOnce 138 = .ok (.iadd, 1) := by decide +kernel
theorem dX7_goOnce_139 : decode cX7_goOnce 139 = .ok (.iaload, 1) := by decide +kernel
theorem dX7_goOnce_140 : decode cX7_goOnce 140 = .ok (.goto 4, 3) := by decide +kernel
theorem dX7_goOnce_143 : decode cX7_goOnce 143 = .ok (.iconst (-1), 1) := by decide +kernel
theorem dX7_goOnce_144 : decode cX7_goOnce 144 = .ok (.iastore, 1) := by decide +kernel
theorem dX7_goOnce_145 : decode cX7_goOnce 145 = .ok (.return_, 1) := by decide +kernel
theorem dX7_game_0 : decode cX7_game 0 = .ok (.iload_n 1, 1) := by decide +kernel
theorem dX7_game_1 : decode cX7_game 1 = .ok (.iconst 0, 1) := by decide +kernel
theorem dX7_game_2 : decode cX7_game 2 = .ok (.iconst 3, 1) := by decide +kernel
theorem dX7_game_3 : decode cX7_game 3 = .ok (.invokestatic 94, 3) := by decide +kernel
theorem dX7_game_6 : decode cX7_game 6 = .ok (.ifCond .eq 35, 3) := by decide +kernel
theorem dX7_game_9 : decode cX7_game 9 = .ok (.iload_n 2, 1) := by decide +kernel
theorem dX7_game_10 : decode cX7_game 10 = .ok (.iconst 0, 1) := by decide +kernel
theorem dX7_game_11 : decode cX7_game 11 = .ok (.sipush 9999, 3) := by decide +kernel
theorem dX7_game_14 : decode cX7_game 14 = .ok (.invokestatic 94, 3) := by decide +kernel
theorem dX7_game_17 : decode cX7_game 17 = .ok (.ifCond .eq 24, 3) := by decide +kernel
theorem dX7_game_20 : decode cX7_game 20 = .ok (.iload_n 3, 1) := by decide +kernel
theorem dX7_game_21 : decode cX7_game 21 = .ok (.iconst 1, 1) := by decide +kernel
theorem dX7_game_22 : decode cX7_game 22 = .ok (.sipush 200, 3) := by decide +kernel
theorem dX7_game_25 : decode cX7_game 25 = .ok (.invokestatic 94, 3) := by decide +kernel
theorem dX7_game_28 : decode cX7_game 28 = .ok (.ifCond .eq 13, 3) := by decide +kernel
theorem dX7_game_31 : decode cX7_game 31 = .ok (.iload 4, 2) := by decide +kernel
theorem dX7_game_33 : decode cX7_game 33 = .ok (.iconst 0, 1) := by decide +kernel
theorem dX7_game_34 : decode cX7_game 34 = .ok (.iconst 5, 1) := by decide +kernel
theorem dX7_game_35 : decode cX7_game 35 = .ok (.invokestatic 94, 3) := by decide +kernel
theorem dX7_game_38 : decode cX7_game 38 = .ok (.ifCond .ne 5, 3) := by decide +kernel
theorem dX7_game_41 : decode cX7_game 41 = .ok (.iconst (-1), 1) := by decide +kernel
theorem dX7_game_42 : decode cX7_game 42 = .ok (.ireturn, 1) := by decide +kernel
theorem dX7_game_43 : decode cX7_game 43 = .ok (.aload_n 0, 1) := by decide +kernel
theorem dX7_game_44 : decode cX7_game 44 = .ok (.invokevirtual 283, 3) := by decide +kernel
theorem dX7_game_47 : decode cX7_game 47 = .ok (.aload_n 0, 1) := by decide +kernel
theorem dX7_game_48 : decode cX7_game 48 = .ok (.iload_n 1, 1) := by decide +kernel
theorem dX7_game_49 : decode cX7_game 49 = .ok (.invokevirtual 311, 3) := by decide +kernel
theorem dX7_game_52 : decode cX7_game 52 = .ok (.aload_n 0, 1) := by decide +kernel
theorem dX7_game_53 : decode cX7_game 53 = .ok (.iload_n 2, 1) := by decide +kernel
theorem dX7_game_54 : decode cX7_game 54 = .ok (.putfield 302, 3) := by decide +kernel
theorem dX7_game_57 : decode cX7_game 57 = .ok (.iconst 0, 1) := by decide +kernel
theorem dX7_game_58 : decode cX7_game 58 = .ok (.istore 5, 2) := by decide +kernel
theorem dX7_game_60 : decode cX7_game 60 = .ok (.iload 5, 2) := by decide +kernel
theorem dX7_game_62 : decode cX7_game 62 = .ok (.iload_n 3, 1) := by decide +kernel
theorem dX7_game_63 : decode cX7_game 63 = .ok (.if_icmp .ge 13, 3) := by decide +kernel
theorem dX7_game_66 : decode cX7_game 66 = .ok (.aload_n 0, 1) := by decide +kernel
theorem dX7_game_67 : decode cX7_game 67 = .ok (.invokevirtual 314, 3) := by decide +kernel
theorem dX7_game_70 : decode cX7_game 70 = .ok (.iinc 5 1, 3) := by decide +kernel
theorem dX7_game_73 : decode cX7_game 73 = .ok (.goto (-13), 3) := by decide +kernel
theorem dX7_game_76 : decode cX7_game 76 = .ok (.aload_n 0, 1) := by decide +kernel
theorem dX7_game_77 : decode cX7_game 77 = .ok (.iload 4, 2) := by decide +kernel
theorem dX7_game_79 : decode cX7_game 79 = .ok (.invokevirtual 317, 3) := by decide +kernel
theorem dX7_game_82 : decode cX7_game 82 = .ok (.istore 5, 2) := by decide +kernel
theorem dX7_game_84 : decode cX7_game 84 = .ok (.aload_n 0, 1) := by decide +kernel
theorem dX7_game_85 : decode cX7_game 85 = .ok (.invokevirtual 289, 3) := by decide +kernel
theorem dX7_game_88 : decode cX7_game 88 = .ok (.iload 5, 2) := by decide +kernel
theorem dX7_game_90 : decode cX7_game 90 = .ok (.ireturn, 1) := by decide +kernel
theorem dX7_gameTells_0 : decode cX7_gameTells 0 = .ok (.iload_n 1, 1) := by decide +kernel
theorem dX7_gameTells_1 : decode cX7_gameTells 1 = .ok (.tableswitch 75 0 4 #[35, 43, 51, 59, 67], 35) := by decide +kernel
theorem dX7_gameTells_36 : decode cX7_gameTells 36 = .ok (.aload_n 0, 1) := by decide +kernel
theorem dX7_gameTells_37 : decode cX7_gameTells 37 = .ok (.sipush 730, 3) := by decide +kernel
theorem dX7_gameTells_40 : decode cX7_gameTells 40 = .ok (.invokevirtual 295, 3) := by decide +kernel
theorem dX7_gameTells_43 : decode cX7_gameTells 43 = .ok (.ireturn, 1) := by decide +kernel
theorem dX7_gameTells_44 : decode cX7_gameTells 44 = .ok (.aload_n 0, 1) := by decide +kernel
theorem dX7_gameTells_45 : decode cX7_gameTells 45 = .ok (.sipush 732, 3) := by decide +kernel
theorem dX7_gameTells_48 : decode cX7_gameTells 48 = .ok (.invokevirtual 295, 3) := by decide +kernel
theorem dX7_gameTells_51 : decode cX7_gameTells 51 = .ok (.ireturn, 1) := by decide +kernel
theorem dX7_gameTells_52 : decode cX7_gameTells 52 = .ok (.aload_n 0, 1) := by decide +kernel
theorem dX7_gameTells_53 : decode cX7_gameTells 53 = .ok (.sipush 731, 3) := by decide +kernel
theorem dX7_gameTells_56 : decode cX7_gameTells 56 = .ok (.invokevirtual 295, 3) := by decide +kernel
theorem dX7_gameTells_59 : decode cX7_gameTells 59 = .ok (.ireturn, 1) := by decide +kernel
theorem dX7_gameTells_60 : decode cX7_gameTells 60 = .ok (.aload_n 0, 1) := by decide +kernel
theorem dX7_gameTells_61 : decode cX7_gameTells 61 = .ok (.sipush 729, 3) := by decide +kernel
theorem dX7_gameTells_64 : decode cX7_gameTells 64 = .ok (.invokevirtual 295, 3) := by decide +kernel
theorem dX7_gameTells_67 : decode cX7_gameTells 67 = .ok (.ireturn, 1) := by decide +kernel
theorem dX7_gameTells_68 : decode cX7_gameTells 68 = .ok (.aload_n 0, 1) := by decide +kernel
theorem dX7_gameTells_69 : decode cX7_gameTells 69 = .ok (.sipush 733, 3) := by decide +kernel
theorem dX7_gameTells_72 : decode cX7_gameTells 72 = .ok (.invokevirtual 295, 3) := by decide +kernel
theorem dX7_gameTells_75 : decode cX7_gameTells 75 = .ok (.ireturn, 1) := by decide +kernel
theorem dX7_gameTells_76 : decode cX7_gameTells 76 = .ok (.aload_n 0, 1) := by decide +kernel
theorem dX7_gameTells_77 : decode cX7_gameTells 77 = .ok (.invokevirtual 164, 3) := by decide +kernel
theorem dX7_gameTells_80 : decode cX7_gameTells 80 = .ok (.ireturn, 1) := by decide +kernel
theorem dX7_feed_0 : decode cX7_feed 0 = .ok (.aload_n 0, 1) := by decide +kernel
theorem dX7_feed_1 : decode cX7_feed 1 = .ok (.getfield 320, 3) := by decide +kernel
theorem dX7_feed_4 : decode cX7_feed 4 = .ok (.bipush 20, 2) := by decide +kernel
theorem dX7_feed_6 : decode cX7_feed 6 = .ok (.iadd, 1) := by decide +kernel
theorem dX7_feed_7 : decode cX7_feed 7 = .ok (.sipush 400, 3) := by decide +kernel
theorem dX7_feed_10 : decode cX7_feed 10 = .ok (.if_icmp .le 5, 3) := by decide +kernel
theorem dX7_feed_13 : decode cX7_feed 13 = .ok (.iconst (-1), 1) := by decide +kernel
theorem dX7_feed_14 : decode cX7_feed 14 = .ok (.ireturn, 1) := by decide +kernel
theorem dX7_feed_15 : decode cX7_feed 15 = .ok (.iconst 0, 1) := by decide +kernel
theorem dX7_feed_16 : decode cX7_feed 16 = .ok (.istore 6, 2) := by decide +kernel
theorem dX7_feed_18 : decode cX7_feed 18 = .ok (.iload 6, 2) := by decide +kernel
theorem dX7_feed_20 : decode cX7_feed 20 = .ok (.bipush 20, 2) := by decide +kernel
theorem dX7_feed_22 : decode cX7_feed 22 = .ok (.if_icmp .ge 86, 3) := by decide +kernel
theorem dX7_feed_25 : decode cX7_feed 25 = .ok (.iload 6, 2) := by decide +kernel
theorem dX7_feed_27 : decode cX7_feed 27 = .ok (.iconst 4, 1) := by decide +kernel
theorem dX7_feed_28 : decode cX7_feed 28 = .ok (.if_icmp .ge 7, 3) := by decide +kernel
theorem dX7_feed_31 : decode cX7_feed 31 = .ok (.iload_n 1, 1) := by decide +kernel
theorem dX7_feed_32 : decode cX7_feed 32 = .ok (.goto 39, 3) := by decide +kernel
theorem dX7_feed_35 : decode cX7_feed 35 = .ok (.iload 6, 2) := by decide +kernel
theorem dX7_feed_37 : decode cX7_feed 37 = .ok (.bipush 8, 2) := by decide +kernel
theorem dX7_feed_39 : decode cX7_feed 39 = .ok (.if_icmp .ge 7, 3) := by decide +kernel
theorem dX7_feed_42 : decode cX7_feed 42 = .ok (.iload_n 2, 1) := by decide +kernel
theorem dX7_feed_43 : decode cX7_feed 43 = .ok (.goto 28, 3) := by decide +kernel
theorem dX7_feed_46 : decode cX7_feed 46 = .ok (.iload 6, 2) := by decide +kernel
theorem dX7_feed_48 : decode cX7_feed 48 = .ok (.bipush 12, 2) := by decide +kernel
theorem dX7_feed_50 : decode cX7_feed 50 = .ok (.if_icmp .ge 7, 3) := by decide +kernel
theorem dX7_feed_53 : decode cX7_feed 53 = .ok (.iload_n 3, 1) := by decide +kernel
theorem dX7_feed_54 : decode cX7_feed 54 = .ok (.goto 17, 3) := by decide +kernel
theorem dX7_feed_57 : decode cX7_feed 57 = .ok (.iload 6, 2) := by decide +kernel
theorem dX7_feed_59 : decode cX7_feed 59 = .ok (.bipush 16, 2) := by decide +kernel
theorem dX7_feed_61 : decode cX7_feed 61 = .ok (.if_icmp .ge 8, 3) := by decide +kernel
theorem dX7_feed_64 : decode cX7_feed 64 = .ok (.iload 4, 2) := by decide +kernel
theorem dX7_feed_66 : decode cX7_feed 66 = .ok (.goto 5, 3) := by decide +kernel
theorem dX7_feed_69 : decode cX7_feed 69 = .ok (.iload 5, 2) := by decide +kernel
theorem dX7_feed_71 : decode cX7_feed 71 = .ok (.istore 7, 2) := by decide +kernel
theorem dX7_feed_73 : decode cX7_feed 73 = .ok (.aload_n 0, 1) := by decide +kernel
theorem dX7_feed_74 : decode cX7_feed 74 = .ok (.getfield 32, 3) := by decide +kernel
theorem dX7_feed_77 : decode cX7_feed 77 = .ok (.aload_n 0, 1) := by decide +kernel
theorem dX7_feed_78 : decode cX7_feed 78 = .ok (.getfield 320, 3) := by decide +kernel
theorem dX7_feed_81 : decode cX7_feed 81 = .ok (.iload 6, 2) := by decide +kernel
theorem dX7_feed_83 : decode cX7_feed 83 = .ok (.iadd, 1) := by decide +kernel
theorem dX7_feed_84 : decode cX7_feed 84 = .ok (.iload 7, 2) := by decide +kernel
theorem dX7_feed_86 : decode cX7_feed 86 = .ok (.bipush 24, 2) := by decide +kernel
theorem dX7_feed_88 : decode cX7_feed 88 = .ok (.bipush 8, 2) := by decide +kernel
theorem dX7_feed_90 : decode cX7_feed 90 = .ok (.iload 6, 2) := by decide +kernel
theorem dX7_feed_92 : decode cX7_feed 92 = .ok (.iconst 3, 1) := by decide +kernel
theorem dX7_feed_93 : decode cX7_feed 93 = .ok (.iand, 1) := by decide +kernel
theorem dX7_feed_94 : decode cX7_feed 94 = .ok (.imul, 1) := by decide +kernel
theorem dX7_feed_95 : decode cX7_feed 95 = .ok (.isub, 1) := by decide +kernel
theorem dX7_feed_96 : decode cX7_feed 96 = .ok (.ishr, 1) := by decide +kernel
theorem dX7_feed_97 : decode cX7_feed 97 = .ok (.sipush 255, 3) := by decide +kernel
theorem dX7_feed_100 : decode cX7_feed 100 = .ok (.iand, 1) := by decide +kernel
theorem dX7_feed_101 : decode cX7_feed 101 = .ok (.iastore, 1) := by decide +kernel
theorem dX7_feed_102 : decode cX7_feed 102 = .ok (.iinc 6 1, 3) := by decide +kernel
theorem dX7_feed_105 : decode cX7_feed 105 = .ok (.goto (-87), 3) := by decide +kernel
theorem dX7_feed_108 : decode cX7_feed 108 = .ok (.aload_n 0, 1) := by decide +kernel
theorem dX7_feed_109 : decode cX7_feed 109 = .ok (.dup, 1) := by decide +kernel
theorem dX7_feed_110 : decode cX7_feed 110 = .ok (.getfield 320, 3) := by decide +kernel
theorem dX7_feed_113 : decode cX7_feed 113 = .ok (.bipush 20, 2) := by decide +kernel
theorem dX7_feed_115 : decode cX7_feed 115 = .ok (.iadd, 1) := by decide +kernel
theorem dX7_feed_116 : decode cX7_feed 116 = .ok (.putfield 320, 3) := by decide +kernel
theorem dX7_feed_119 : decode cX7_feed 119 = .ok (.aload_n 0, 1) := by decide +kernel
theorem dX7_feed_120 : decode cX7_feed 120 = .ok (.getfield 320, 3) := by decide +kernel
theorem dX7_feed_123 : decode cX7_feed 123 = .ok (.ireturn, 1) := by decide +kernel
theorem dX7_cut_0 : decode cX7_cut 0 = .ok (.iload_n 1, 1) := by decide +kernel
theorem dX7_cut_1 : decode cX7_cut 1 = .ok (.ifCond .lt 11, 3) := by decide +kernel
theorem dX7_cut_4 : decode cX7_cut 4 = .ok (.iload_n 1, 1) := by decide +kernel
theorem dX7_cut_5 : decode cX7_cut 5 = .ok (.aload_n 0, 1) := by decide +kernel
theorem dX7_cut_6 : decode cX7_cut 6 = .ok (.getfield 320, 3) := by decide +kernel
theorem dX7_cut_9 : decode cX7_cut 9 = .ok (.if_icmp .le 5, 3) := by decide +kernel
theorem dX7_cut_12 : decode cX7_cut 12 = .ok (.iconst (-1), 1) := by decide +kernel
theorem dX7_cut_13 : decode cX7_cut 13 = .ok (.ireturn, 1) := by decide +kernel
theorem dX7_cut_14 : decode cX7_cut 14 = .ok (.aload_n 0, 1) := by decide +kernel
theorem dX7_cut_15 : decode cX7_cut 15 = .ok (.iload_n 1, 1) := by decide +kernel
theorem dX7_cut_16 : decode cX7_cut 16 = .ok (.putfield 320, 3) := by decide +kernel
theorem dX7_cut_19 : decode cX7_cut 19 = .ok (.iload_n 1, 1) := by decide +kernel
theorem dX7_cut_20 : decode cX7_cut 20 = .ok (.ireturn, 1) := by decide +kernel
theorem dX7_byteAt_0 : decode cX7_byteAt 0 = .ok (.iload_n 1, 1) := by decide +kernel
theorem dX7_byteAt_1 : decode cX7_byteAt 1 = .ok (.aload_n 0, 1) := by decide +kernel
theorem dX7_byteAt_2 : decode cX7_byteAt 2 = .ok (.getfield 323, 3) := by decide +kernel
theorem dX7_byteAt_5 : decode cX7_byteAt 5 = .ok (.if_icmp .ge 12, 3) := by decide +kernel
theorem dX7_byteAt_8 : decode cX7_byteAt 8 = .ok (.aload_n 0, 1) := by decide +kernel
theorem dX7_byteAt_9 : decode cX7_byteAt 9 = .ok (.getfield 32, 3) := by decide +kernel
theorem dX7_byteAt_12 : decode cX7_byteAt 12 = .ok (.iload_n 1, 1) := by decide +kernel
theorem dX7_byteAt_13 : decode cX7_byteAt 13 = .ok (.iaload, 1) := by decide +kernel
theorem dX7_byteAt_14 : decode cX7_byteAt 14 = .ok (.goto 4, 3) := by decide +kernel
theorem dX7_byteAt_17 : decode cX7_byteAt 17 = .ok (.iconst 0, 1) := by decide +kernel
theorem dX7_byteAt_18 : decode cX7_byteAt 18 = .ok (.ireturn, 1) := by decide +kernel
theorem dX7_isLetter_0 : decode cX7_isLetter 0 = .ok (.iload_n 0, 1) := by decide +kernel
theorem dX7_isLetter_1 : decode cX7_isLetter 1 = .ok (.bipush 97, 2) := by decide +kernel
theorem dX7_isLetter_3 : decode cX7_isLetter 3 = .ok (.if_icmp .lt 13, 3) := by decide +kernel
theorem dX7_isLetter_6 : decode cX7_isLetter 6 = .ok (.iload_n 0, 1) := by decide +kernel
theorem dX7_isLetter_7 : decode cX7_isLetter 7 = .ok (.bipush 122, 2) := by decide +kernel
theorem dX7_isLetter_9 : decode cX7_isLetter 9 = .ok (.if_icmp .gt 7, 3) := by decide +kernel
theorem dX7_isLetter_12 : decode cX7_isLetter 12 = .ok (.iconst 1, 1) := by decide +kernel
theorem dX7_isLetter_13 : decode cX7_isLetter 13 = .ok (.goto 4, 3) := by decide +kernel
theorem dX7_isLetter_16 : decode cX7_isLetter 16 = .ok (.iconst 0, 1) := by decide +kernel
theorem dX7_isLetter_17 : decode cX7_isLetter 17 = .ok (.ireturn, 1) := by decide +kernel
theorem dX7_isDigit_0 : decode cX7_isDigit 0 = .ok (.iload_n 0, 1) := by decide +kernel
theorem dX7_isDigit_1 : decode cX7_isDigit 1 = .ok (.bipush 48, 2) := by decide +kernel
theorem dX7_isDigit_3 : decode cX7_isDigit 3 = .ok (.if_icmp .lt 13, 3) := by decide +kernel
theorem dX7_isDigit_6 : decode cX7_isDigit 6 = .ok (.iload_n 0, 1) := by decide +kernel
theorem dX7_isDigit_7 : decode cX7_isDigit 7 = .ok (.bipush 57, 2) := by decide +kernel
theorem dX7_isDigit_9 : decode cX7_isDigit 9 = .ok (.if_icmp .gt 7, 3) := by decide +kernel
theorem dX7_isDigit_12 : decode cX7_isDigit 12 = .ok (.iconst 1, 1) := by decide +kernel
theorem dX7_isDigit_13 : decode cX7_isDigit 13 = .ok (.goto 4, 3) := by decide +kernel
theorem dX7_isDigit_16 : decode cX7_isDigit 16 = .ok (.iconst 0, 1) := by decide +kernel
theorem dX7_isDigit_17 : decode cX7_isDigit 17 = .ok (.ireturn, 1) := by decide +kernel
theorem dX7_isSign_0 : decode cX7_isSign 0 = .ok (.iload_n 0, 1) := by decide +kernel
theorem dX7_isSign_1 : decode cX7_isSign 1 = .ok (.bipush 61, 2) := by decide +kernel
theorem dX7_isSign_3 : decode cX7_isSign 3 = .ok (.if_icmp .eq 27, 3) := by decide +kernel
theorem dX7_isSign_6 : decode cX7_isSign 6 = .ok (.iload_n 0, 1) := by decide +kernel
theorem dX7_isSign_7 : decode cX7_isSign 7 = .ok (.bipush 46, 2) := by decide +kernel
theorem dX7_isSign_9 : decode cX7_isSign 9 = .ok (.if_icmp .eq 21, 3) := by decide +kernel
theorem dX7_isSign_12 : decode cX7_isSign 12 = .ok (.iload_n 0, 1) := by decide +kernel
theorem dX7_isSign_13 : decode cX7_isSign 13 = .ok (.bipush 59, 2) := by decide +kernel
theorem dX7_isSign_15 : decode cX7_isSign 15 = .ok (.if_icmp .eq 15, 3) := by decide +kernel
theorem dX7_isSign_18 : decode cX7_isSign 18 = .ok (.iload_n 0, 1) := by decide +kernel
theorem dX7_isSign_19 : decode cX7_isSign 19 = .ok (.bipush 123, 2) := by decide +kernel
theorem dX7_isSign_21 : decode cX7_isSign 21 = .ok (.if_icmp .eq 9, 3) := by decide +kernel
theorem dX7_isSign_24 : decode cX7_isSign 24 = .ok (.iload_n 0, 1) := by decide +kernel
theorem dX7_isSign_25 : decode cX7_isSign 25 = .ok (.bipush 125, 2) := by decide +kernel
theorem dX7_isSign_27 : decode cX7_isSign 27 = .ok (.if_icmp .ne 7, 3) := by decide +kernel
theorem dX7_isSign_30 : decode cX7_isSign 30 = .ok (.iconst 1, 1) := by decide +kernel
theorem dX7_isSign_31 : decode cX7_isSign 31 = .ok (.goto 4, 3) := by decide +kernel
theorem dX7_isSign_34 : decode cX7_isSign 34 = .ok (.iconst 0, 1) := by decide +kernel
theorem dX7_isSign_35 : decode cX7_isSign 35 = .ok (.ireturn, 1) := by decide +kernel
theorem dX7_isBlank_0 : decode cX7_isBlank 0 = .ok (.iload_n 1, 1) := by decide +kernel
theorem dX7_isBlank_1 : decode cX7_isBlank 1 = .ok (.aload_n 0, 1) := by decide +kernel
theorem dX7_isBlank_2 : decode cX7_isBlank 2 = .ok (.getfield 323, 3) := by decide +kernel
theorem dX7_isBlank_5 : decode cX7_isBlank 5 = .ok (.if_icmp .ge 29, 3) := by decide +kernel
theorem dX7_isBlank_8 : decode cX7_isBlank 8 = .ok (.aload_n 0, 1) := by decide +kernel
theorem dX7_isBlank_9 : decode cX7_isBlank 9 = .ok (.getfield 32, 3) := by decide +kernel
theorem dX7_isBlank_12 : decode cX7_isBlank 12 = .ok (.iload_n 1, 1) := by decide +kernel
theorem dX7_isBlank_13 : decode cX7_isBlank 13 = .ok (.iaload, 1) := by decide +kernel
theorem dX7_isBlank_14 : decode cX7_isBlank 14 = .ok (.bipush 32, 2) := by decide +kernel
theorem dX7_isBlank_16 : decode cX7_isBlank 16 = .ok (.if_icmp .eq 14, 3) := by decide +kernel
theorem dX7_isBlank_19 : decode cX7_isBlank 19 = .ok (.aload_n 0, 1) := by decide +kernel
theorem dX7_isBlank_20 : decode cX7_isBlank 20 = .ok (.getfield 32, 3) := by decide +kernel
theorem dX7_isBlank_23 : decode cX7_isBlank 23 = .ok (.iload_n 1, 1) := by decide +kernel
theorem dX7_isBlank_24 : decode cX7_isBlank 24 = .ok (.iaload, 1) := by decide +kernel
theorem dX7_isBlank_25 : decode cX7_isBlank 25 = .ok (.bipush 10, 2) := by decide +kernel
theorem dX7_isBlank_27 : decode cX7_isBlank 27 = .ok (.if_icmp .ne 7, 3) := by decide +kernel
theorem dX7_isBlank_30 : decode cX7_isBlank 30 = .ok (.iconst 1, 1) := by decide +kernel
theorem dX7_isBlank_31 : decode cX7_isBlank 31 = .ok (.goto 4, 3) := by decide +kernel
theorem dX7_isBlank_34 : decode cX7_isBlank 34 = .ok (.iconst 0, 1) := by decide +kernel
theorem dX7_isBlank_35 : decode cX7_isBlank 35 = .ok (.ireturn, 1) := by decide +kernel
theorem dX7_scan_0 : decode cX7_scan 0 = .ok (.aload_n 0, 1) := by decide +kernel
theorem dX7_scan_1 : decode cX7_scan 1 = .ok (.aload_n 0, 1) := by decide +kernel
theorem dX7_scan_2 : decode cX7_scan 2 = .ok (.getfield 326, 3) := by decide +kernel
theorem dX7_scan_5 : decode cX7_scan 5 = .ok (.putfield 329, 3) := by decide +kernel
theorem dX7_scan_8 : decode cX7_scan 8 = .ok (.aload_n 0, 1) := by decide +kernel
theorem dX7_scan_9 : decode cX7_scan 9 = .ok (.aload_n 0, 1) := by decide +kernel
theorem dX7_scan_10 : decode cX7_scan 10 = .ok (.getfield 329, 3) := by decide +kernel
theorem dX7_scan_13 : decode cX7_scan 13 = .ok (.invokevirtual 332, 3) := by decide +kernel
theorem dX7_scan_16 : decode cX7_scan 16 = .ok (.ifCond .eq 16, 3) := by decide +kernel
theorem dX7_scan_19 : decode cX7_scan 19 = .ok (.aload_n 0, 1) := by decide +kernel
theorem dX7_scan_20 : decode cX7_scan 20 = .ok (.dup, 1) := by decide +kernel
theorem dX7_scan_21 : decode cX7_scan 21 = .ok (.getfield 329, 3) := by decide +kernel
theorem dX7_scan_24 : decode cX7_scan 24 = .ok (.iconst 1, 1) := by decide +kernel
theorem dX7_scan_25 : decode cX7_scan 25 = .ok (.iadd, 1) := by decide +kernel
theorem dX7_scan_26 : decode cX7_scan 26 = .ok (.putfield 329, 3) := by decide +kernel
theorem dX7_scan_29 : decode cX7_scan 29 = .ok (.goto (-21), 3) := by decide +kernel
theorem dX7_scan_32 : decode cX7_scan 32 = .ok (.aload_n 0, 1) := by decide +kernel
theorem dX7_scan_33 : decode cX7_scan 33 = .ok (.aload_n 0, 1) := by decide +kernel
theorem dX7_scan_34 : decode cX7_scan 34 = .ok (.getfield 329, 3) := by decide +kernel
theorem dX7_scan_37 : decode cX7_scan 37 = .ok (.iconst 1, 1) := by decide +kernel
theorem dX7_scan_38 : decode cX7_scan 38 = .ok (.iadd, 1) := by decide +kernel
theorem dX7_scan_39 : decode cX7_scan 39 = .ok (.putfield 326, 3) := by decide +kernel
theorem dX7_scan_42 : decode cX7_scan 42 = .ok (.aload_n 0, 1) := by decide +kernel
theorem dX7_scan_43 : decode cX7_scan 43 = .ok (.getfield 329, 3) := by decide +kernel
theorem dX7_scan_46 : decode cX7_scan 46 = .ok (.aload_n 0, 1) := by decide +kernel
theorem dX7_scan_47 : decode cX7_scan 47 = .ok (.getfield 323, 3) := by decide +kernel
theorem dX7_scan_50 : decode cX7_scan 50 = .ok (.if_icmp .lt 19, 3) := by decide +kernel
theorem dX7_scan_53 : decode cX7_scan 53 = .ok (.aload_n 0, 1) := by decide +kernel
theorem dX7_scan_54 : decode cX7_scan 54 = .ok (.aload_n 0, 1) := by decide +kernel
theorem dX7_scan_55 : decode cX7_scan 55 = .ok (.getfield 329, 3) := by decide +kernel
theorem dX7_scan_58 : decode cX7_scan 58 = .ok (.putfield 326, 3) := by decide +kernel
theorem dX7_scan_61 : decode cX7_scan 61 = .ok (.aload_n 0, 1) := by decide +kernel
theorem dX7_scan_62 : decode cX7_scan 62 = .ok (.iconst 0, 1) := by decide +kernel
theorem dX7_scan_63 : decode cX7_scan 63 = .ok (.putfield 335, 3) := by decide +kernel
theorem dX7_scan_66 : decode cX7_scan 66 = .ok (.goto 68, 3) := by decide +kernel
theorem dX7_scan_69 : decode cX7_scan 69 = .ok (.aload_n 0, 1) := by decide +kernel
theorem dX7_scan_70 : decode cX7_scan 70 = .ok (.aload_n 0, 1) := by decide +kernel
theorem dX7_scan_71 : decode cX7_scan 71 = .ok (.getfield 329, 3) := by decide +kernel
theorem dX7_scan_74 : decode cX7_scan 74 = .ok (.invokevirtual 338, 3) := by decide +kernel
theorem dX7_scan_77 : decode cX7_scan 77 = .ok (.invokestatic 341, 3) := by decide +kernel
theorem dX7_scan_80 : decode cX7_scan 80 = .ok (.ifCond .eq 10, 3) := by decide +kernel
theorem dX7_scan_83 : decode cX7_scan 83 = .ok (.aload_n 0, 1) := by decide +kernel
theorem dX7_scan_84 : decode cX7_scan 84 = .ok (.invokevirtual 344, 3) := by decide +kernel
theorem dX7_scan_87 : decode cX7_scan 87 = .ok (.goto 47, 3) := by decide +kernel
theorem dX7_scan_90 : decode cX7_scan 90 = .ok (.aload_n 0, 1) := by decide +kernel
theorem dX7_scan_91 : decode cX7_scan 91 = .ok (.aload_n 0, 1) := by decide +kernel
theorem dX7_scan_92 : decode cX7_scan 92 = .ok (.getfield 329, 3) := by decide +kernel
theorem dX7_scan_95 : decode cX7_scan 95 = .ok (.invokevirtual 338, 3) := by decide +kernel
theorem dX7_scan_98 : decode cX7_scan 98 = .ok (.invokestatic 347, 3) := by decide +kernel
theorem dX7_scan_101 : decode cX7_scan 101 = .ok (.ifCond .eq 10, 3) := by decide +kernel
theorem dX7_scan_104 : decode cX7_scan 104 = .ok (.aload_n 0, 1) := by decide +kernel
theorem dX7_scan_105 : decode cX7_scan 105 = .ok (.invokevirtual 350, 3) := by decide +kernel
theorem dX7_scan_108 : decode cX7_scan 108 = .ok (.goto 26, 3) := by decide +kernel
theorem dX7_scan_111 : decode cX7_scan 111 = .ok (.aload_n 0, 1) := by decide +kernel
theorem dX7_scan_112 : decode cX7_scan 112 = .ok (.aload_n 0, 1) := by decide +kernel
theorem dX7_scan_113 : decode cX7_scan 113 = .ok (.aload_n 0, 1) := by decide +kernel
theorem dX7_scan_114 : decode cX7_scan 114 = .ok (.getfield 329, 3) := by decide +kernel
theorem dX7_scan_117 : decode cX7_scan 117 = .ok (.invokevirtual 338, 3) := by decide +kernel
theorem dX7_scan_120 : decode cX7_scan 120 = .ok (.invokestatic 353, 3) := by decide +kernel
theorem dX7_scan_123 : decode cX7_scan 123 = .ok (.ifCond .eq 7, 3) := by decide +kernel
theorem dX7_scan_126 : decode cX7_scan 126 = .ok (.iconst 4, 1) := by decide +kernel
theorem dX7_scan_127 : decode cX7_scan 127 = .ok (.goto 4, 3) := by decide +kernel
theorem dX7_scan_130 : decode cX7_scan 130 = .ok (.iconst 1, 1) := by decide +kernel
theorem dX7_scan_131 : decode cX7_scan 131 = .ok (.putfield 335, 3) := by decide +kernel
theorem dX7_scan_134 : decode cX7_scan 134 = .ok (.return_, 1) := by decide +kernel
theorem dX7_scanWord_0 : decode cX7_scanWord 0 = .ok (.aload_n 0, 1) := by decide +kernel
theorem dX7_scanWord_1 : decode cX7_scanWord 1 = .ok (.iconst 2, 1) := by decide +kernel
theorem dX7_scanWord_2 : decode cX7_scanWord 2 = .ok (.putfield 335, 3) := by decide +kernel
theorem dX7_scanWord_5 : decode cX7_scanWord 5 = .ok (.aload_n 0, 1) := by decide +kernel
theorem dX7_scanWord_6 : decode cX7_scanWord 6 = .ok (.iconst 0, 1) := by decide +kernel
theorem dX7_scanWord_7 : decode cX7_scanWord 7 = .ok (.putfield 356, 3) := by decide +kernel
theorem dX7_scanWord_10 : decode cX7_scanWord 10 = .ok (.aload_n 0, 1) := by decide +kernel
theorem dX7_scanWord_11 : decode cX7_scanWord 11 = .ok (.aload_n 0, 1) := by decide +kernel
theorem dX7_scanWord_12 : decode cX7_scanWord 12 = .ok (.getfield 329, 3) := by decide +kernel
theorem dX7_scanWord_15 : decode cX7_scanWord 15 = .ok (.putfield 326, 3) := by decide +kernel
theorem dX7_scanWord_18 : decode cX7_scanWord 18 = .ok (.aload_n 0, 1) := by decide +kernel
theorem dX7_scanWord_19 : decode cX7_scanWord 19 = .ok (.aload_n 0, 1) := by decide +kernel
theorem dX7_scanWord_20 : decode cX7_scanWord 20 = .ok (.getfield 326, 3) := by decide +kernel
theorem dX7_scanWord_23 : decode cX7_scanWord 23 = .ok (.invokevirtual 338, 3) := by decide +kernel
theorem dX7_scanWord_26 : decode cX7_scanWord 26 = .ok (.invokestatic 341, 3) := by decide +kernel
theorem dX7_scanWord_29 : decode cX7_scanWord 29 = .ok (.ifCond .eq 56, 3) := by decide +kernel
theorem dX7_scanWord_32 : decode cX7_scanWord 32 = .ok (.aload_n 0, 1) := by decide +kernel
theorem dX7_scanWord_33 : decode cX7_scanWord 33 = .ok (.aload_n 0, 1) := by decide +kernel
theorem dX7_scanWord_34 : decode cX7_scanWord 34 = .ok (.getfield 326, 3) := by decide +kernel
theorem dX7_scanWord_37 : decode cX7_scanWord 37 = .ok (.aload_n 0, 1) := by decide +kernel
theorem dX7_scanWord_38 : decode cX7_scanWord 38 = .ok (.getfield 329, 3) := by decide +kernel
theorem dX7_scanWord_41 : decode cX7_scanWord 41 = .ok (.isub, 1) := by decide +kernel
theorem dX7_scanWord_42 : decode cX7_scanWord 42 = .ok (.iconst 5, 1) := by decide +kernel
theorem dX7_scanWord_43 : decode cX7_scanWord 43 = .ok (.if_icmp .ge 25, 3) := by decide +kernel
theorem dX7_scanWord_46 : decode cX7_scanWord 46 = .ok (.bipush 32, 2) := by decide +kernel
theorem dX7_scanWord_48 : decode cX7_scanWord 48 = .ok (.aload_n 0, 1) := by decide +kernel
theorem dX7_scanWord_49 : decode cX7_scanWord 49 = .ok (.getfield 356, 3) := by decide +kernel
theorem dX7_scanWord_52 : decode cX7_scanWord 52 = .ok (.imul, 1) := by decide +kernel
theorem dX7_scanWord_53 : decode cX7_scanWord 53 = .ok (.aload_n 0, 1) := by decide +kernel
theorem dX7_scanWord_54 : decode cX7_scanWord 54 = .ok (.aload_n 0, 1) := by decide +kernel
theorem dX7_scanWord_55 : decode cX7_scanWord 55 = .ok (.getfield 326, 3) := by decide +kernel
theorem dX7_scanWord_58 : decode cX7_scanWord 58 = .ok (.invokevirtual 338, 3) := by decide +kernel
theorem dX7_scanWord_61 : decode cX7_scanWord 61 = .ok (.iadd, 1) := by decide +kernel
theorem dX7_scanWord_62 : decode cX7_scanWord 62 = .ok (.bipush 96, 2) := by decide +kernel
theorem dX7_scanWord_64 : decode cX7_scanWord 64 = .ok (.isub, 1) := by decide +kernel
theorem dX7_scanWord_65 : decode cX7_scanWord 65 = .ok (.goto 4, 3) := by decide +kernel
theorem dX7_scanWord_68 : decode cX7_scanWord 68 = .ok (.iconst 0, 1) := by decide +kernel
theorem dX7_scanWord_69 : decode cX7_scanWord 69 = .ok (.putfield 356, 3) := by decide +kernel
theorem dX7_scanWord_72 : decode cX7_scanWord 72 = .ok (.aload_n 0, 1) := by decide +kernel
theorem dX7_scanWord_73 : decode cX7_scanWord 73 = .ok (.dup, 1) := by decide +kernel
theorem dX7_scanWord_74 : decode cX7_scanWord 74 = .ok (.getfield 326, 3) := by decide +kernel
theorem dX7_scanWord_77 : decode cX7_scanWord 77 = .ok (.iconst 1, 1) := by decide +kernel
theorem dX7_scanWord_78 : decode cX7_scanWord 78 = .ok (.iadd, 1) := by decide +kernel
theorem dX7_scanWord_79 : decode cX7_scanWord 79 = .ok (.putfield 326, 3) := by decide +kernel
theorem dX7_scanWord_82 : decode cX7_scanWord 82 = .ok (.goto (-64), 3) := by decide +kernel
theorem dX7_scanWord_85 : decode cX7_scanWord 85 = .ok (.aload_n 0, 1) := by decide +kernel
theorem dX7_scanWord_86 : decode cX7_scanWord 86 = .ok (.getfield 326, 3) := by decide +kernel
theorem dX7_scanWord_89 : decode cX7_scanWord 89 = .ok (.aload_n 0, 1) := by decide +kernel
theorem dX7_scanWord_90 : decode cX7_scanWord 90 = .ok (.getfield 329, 3) := by decide +kernel
theorem dX7_scanWord_93 : decode cX7_scanWord 93 = .ok (.isub, 1) := by decide +kernel
theorem dX7_scanWord_94 : decode cX7_scanWord 94 = .ok (.iconst 5, 1) := by decide +kernel
theorem dX7_scanWord_95 : decode cX7_scanWord 95 = .ok (.if_icmp .le 8, 3) := by decide +kernel
theorem dX7_scanWord_98 : decode cX7_scanWord 98 = .ok (.aload_n 0, 1) := by decide +kernel
theorem dX7_scanWord_99 : decode cX7_scanWord 99 = .ok (.iconst 0, 1) := by decide +kernel
theorem dX7_scanWord_100 : decode cX7_scanWord 100 = .ok (.putfield 356, 3) := by decide +kernel
theorem dX7_scanWord_103 : decode cX7_scanWord 103 = .ok (.return_, 1) := by decide +kernel
theorem dX7_scanNumber_0 : decode cX7_scanNumber 0 = .ok (.aload_n 0, 1) := by decide +kernel
theorem dX7_scanNumber_1 : decode cX7_scanNumber 1 = .ok (.iconst 3, 1) := by decide +kernel
theorem dX7_scanNumber_2 : decode cX7_scanNumber 2 = .ok (.putfield 335, 3) := by decide +kernel
theorem dX7_scanNumber_5 : decode cX7_scanNumber 5 = .ok (.aload_n 0, 1) := by decide +kernel
theorem dX7_scanNumber_6 : decode cX7_scanNumber 6 = .ok (.iconst 0, 1) := by decide +kernel
theorem dX7_scanNumber_7 : decode cX7_scanNumber 7 = .ok (.putfield 359, 3) := by decide +kernel
theorem dX7_scanNumber_10 : decode cX7_scanNumber 10 = .ok (.aload_n 0, 1) := by decide +kernel
theorem dX7_scanNumber_11 : decode cX7_scanNumber 11 = .ok (.aload_n 0, 1) := by decide +kernel
theorem dX7_scanNumber_12 : decode cX7_scanNumber 12 = .ok (.getfield 329, 3) := by decide +kernel
theorem dX7_scanNumber_15 : decode cX7_scanNumber 15 = .ok (.putfield 326, 3) := by decide +kernel
theorem dX7_scanNumber_18 : decode cX7_scanNumber 18 = .ok (.aload_n 0, 1) := by decide +kernel
theorem dX7_scanNumber_19 : decode cX7_scanNumber 19 = .ok (.aload_n 0, 1) := by decide +kernel
theorem dX7_scanNumber_20 : decode cX7_scanNumber 20 = .ok (.getfield 326, 3) := by decide +kernel
theorem dX7_scanNumber_23 : decode cX7_scanNumber 23 = .ok (.invokevirtual 338, 3) := by decide +kernel
theorem dX7_scanNumber_26 : decode cX7_scanNumber 26 = .ok (.invokestatic 347, 3) := by decide +kernel
theorem dX7_scanNumber_29 : decode cX7_scanNumber 29 = .ok (.ifCond .eq 58, 3) := by decide +kernel
theorem dX7_scanNumber_32 : decode cX7_scanNumber 32 = .ok (.aload_n 0, 1) := by decide +kernel
theorem dX7_scanNumber_33 : decode cX7_scanNumber 33 = .ok (.aload_n 0, 1) := by decide +kernel
theorem dX7_scanNumber_34 : decode cX7_scanNumber 34 = .ok (.getfield 326, 3) := by decide +kernel
theorem dX7_scanNumber_37 : decode cX7_scanNumber 37 = .ok (.aload_n 0, 1) := by decide +kernel
theorem dX7_scanNumber_38 : decode cX7_scanNumber 38 = .ok (.getfield 329, 3) := by decide +kernel
theorem dX7_scanNumber_41 : decode cX7_scanNumber 41 = .ok (.isub, 1) := by decide +kernel
theorem dX7_scanNumber_42 : decode cX7_scanNumber 42 = .ok (.iconst 3, 1) := by decide +kernel
theorem dX7_scanNumber_43 : decode cX7_scanNumber 43 = .ok (.if_icmp .ge 25, 3) := by decide +kernel
theorem dX7_scanNumber_46 : decode cX7_scanNumber 46 = .ok (.bipush 10, 2) := by decide +kernel
theorem dX7_scanNumber_48 : decode cX7_scanNumber 48 = .ok (.aload_n 0, 1) := by decide +kernel
theorem dX7_scanNumber_49 : decode cX7_scanNumber 49 = .ok (.getfield 359, 3) := by decide +kernel
theorem dX7_scanNumber_52 : decode cX7_scanNumber 52 = .ok (.imul, 1) := by decide +kernel
theorem dX7_scanNumber_53 : decode cX7_scanNumber 53 = .ok (.aload_n 0, 1) := by decide +kernel
theorem dX7_scanNumber_54 : decode cX7_scanNumber 54 = .ok (.aload_n 0, 1) := by decide +kernel
theorem dX7_scanNumber_55 : decode cX7_scanNumber 55 = .ok (.getfield 326, 3) := by decide +kernel
theorem dX7_scanNumber_58 : decode cX7_scanNumber 58 = .ok (.invokevirtual 338, 3) := by decide +kernel
theorem dX7_scanNumber_61 : decode cX7_scanNumber 61 = .ok (.iadd, 1) := by decide +kernel
theorem dX7_scanNumber_62 : decode cX7_scanNumber 62 = .ok (.bipush 48, 2) := by decide +kernel
theorem dX7_scanNumber_64 : decode cX7_scanNumber 64 = .ok (.isub, 1) := by decide +kernel
theorem dX7_scanNumber_65 : decode cX7_scanNumber 65 = .ok (.goto 6, 3) := by decide +kernel
theorem dX7_scanNumber_68 : decode cX7_scanNumber 68 = .ok (.sipush 1000, 3) := by decide +kernel
theorem dX7_scanNumber_71 : decode cX7_scanNumber 71 = .ok (.putfield 359, 3) := by decide +kernel
theorem dX7_scanNumber_74 : decode cX7_scanNumber 74 = .ok (.aload_n 0, 1) := by decide +kernel
theorem dX7_scanNumber_75 : decode cX7_scanNumber 75 = .ok (.dup, 1) := by decide +kernel
theorem dX7_scanNumber_76 : decode cX7_scanNumber 76 = .ok (.getfield 326, 3) := by decide +kernel
theorem dX7_scanNumber_79 : decode cX7_scanNumber 79 = .ok (.iconst 1, 1) := by decide +kernel
theorem dX7_scanNumber_80 : decode cX7_scanNumber 80 = .ok (.iadd, 1) := by decide +kernel
theorem dX7_scanNumber_81 : decode cX7_scanNumber 81 = .ok (.putfield 326, 3) := by decide +kernel
theorem dX7_scanNumber_84 : decode cX7_scanNumber 84 = .ok (.goto (-66), 3) := by decide +kernel
theorem dX7_scanNumber_87 : decode cX7_scanNumber 87 = .ok (.return_, 1) := by decide +kernel
theorem dX7_fail_0 : decode cX7_fail 0 = .ok (.aload_n 0, 1) := by decide +kernel
theorem dX7_fail_1 : decode cX7_fail 1 = .ok (.getfield 362, 3) := by decide +kernel
theorem dX7_fail_4 : decode cX7_fail 4 = .ok (.ifCond .le 4, 3) := by decide +kernel
theorem dX7_fail_7 : decode cX7_fail 7 = .ok (.return_, 1) := by decide +kernel
theorem dX7_fail_8 : decode cX7_fail 8 = .ok (.aload_n 0, 1) := by decide +kernel
theorem dX7_fail_9 : decode cX7_fail 9 = .ok (.iload_n 1, 1) := by decide +kernel
theorem dX7_fail_10 : decode cX7_fail 10 = .ok (.putfield 362, 3) := by decide +kernel
theorem dX7_fail_13 : decode cX7_fail 13 = .ok (.aload_n 0, 1) := by decide +kernel
theorem dX7_fail_14 : decode cX7_fail 14 = .ok (.aload_n 0, 1) := by decide +kernel
theorem dX7_fail_15 : decode cX7_fail 15 = .ok (.getfield 329, 3) := by decide +kernel
theorem dX7_fail_18 : decode cX7_fail 18 = .ok (.putfield 365, 3) := by decide +kernel
theorem dX7_fail_21 : decode cX7_fail 21 = .ok (.return_, 1) := by decide +kernel
theorem dX7_isAt_0 : decode cX7_isAt 0 = .ok (.aload_n 0, 1) := by decide +kernel
theorem dX7_isAt_1 : decode cX7_isAt 1 = .ok (.getfield 362, 3) := by decide +kernel
theorem dX7_isAt_4 : decode cX7_isAt 4 = .ok (.ifCond .ne 27, 3) := by decide +kernel
theorem dX7_isAt_7 : decode cX7_isAt 7 = .ok (.aload_n 0, 1) := by decide +kernel
theorem dX7_isAt_8 : decode cX7_isAt 8 = .ok (.getfield 335, 3) := by decide +kernel
theorem dX7_isAt_11 : decode cX7_isAt 11 = .ok (.iconst 4, 1) := by decide +kernel
theorem dX7_isAt_12 : decode cX7_isAt 12 = .ok (.if_icmp .ne 19, 3) := by decide +kernel
theorem dX7_isAt_15 : decode cX7_isAt 15 = .ok (.aload_n 0, 1) := by decide +kernel
theorem dX7_isAt_16 : decode cX7_isAt 16 = .ok (.aload_n 0, 1) := by decide +kernel
theorem dX7_isAt_17 : decode cX7_isAt 17 = .ok (.getfield 329, 3) := by decide +kernel
theorem dX7_isAt_20 : decode cX7_isAt 20 = .ok (.invokevirtual 338, 3) := by decide +kernel
theorem dX7_isAt_23 : decode cX7_isAt 23 = .ok (.iload_n 1, 1) := by decide +kernel
theorem dX7_isAt_24 : decode cX7_isAt 24 = .ok (.if_icmp .ne 7, 3) := by decide +kernel
theorem dX7_isAt_27 : decode cX7_isAt 27 = .ok (.iconst 1, 1) := by decide +kernel
theorem dX7_isAt_28 : decode cX7_isAt 28 = .ok (.goto 4, 3) := by decide +kernel
theorem dX7_isAt_31 : decode cX7_isAt 31 = .ok (.iconst 0, 1) := by decide +kernel
theorem dX7_isAt_32 : decode cX7_isAt 32 = .ok (.ireturn, 1) := by decide +kernel
theorem dX7_isWord_0 : decode cX7_isWord 0 = .ok (.aload_n 0, 1) := by decide +kernel
theorem dX7_isWord_1 : decode cX7_isWord 1 = .ok (.getfield 362, 3) := by decide +kernel
theorem dX7_isWord_4 : decode cX7_isWord 4 = .ok (.ifCond .ne 23, 3) := by decide +kernel
theorem dX7_isWord_7 : decode cX7_isWord 7 = .ok (.aload_n 0, 1) := by decide +kernel
theorem dX7_isWord_8 : decode cX7_isWord 8 = .ok (.getfield 335, 3) := by decide +kernel
theorem dX7_isWord_11 : decode cX7_isWord 11 = .ok (.iconst 2, 1) := by decide +kernel
theorem dX7_isWord_12 : decode cX7_isWord 12 = .ok (.if_icmp .ne 15, 3) := by decide +kernel
theorem dX7_isWord_15 : decode cX7_isWord 15 = .ok (.aload_n 0, 1) := by decide +kernel
theorem dX7_isWord_16 : decode cX7_isWord 16 = .ok (.getfield 356, 3) := by decide +kernel
theorem dX7_isWord_19 : decode cX7_isWord 19 = .ok (.iload_n 1, 1) := by decide +kernel
theorem dX7_isWord_20 : decode cX7_isWord 20 = .ok (.if_icmp .ne 7, 3) := by decide +kernel
theorem dX7_isWord_23 : decode cX7_isWord 23 = .ok (.iconst 1, 1) := by decide +kernel
theorem dX7_isWord_24 : decode cX7_isWord 24 = .ok (.goto 4, 3) := by decide +kernel
theorem dX7_isWord_27 : decode cX7_isWord 27 = .ok (.iconst 0, 1) := by decide +kernel
theorem dX7_isWord_28 : decode cX7_isWord 28 = .ok (.ireturn, 1) := by decide +kernel
theorem dX7_need_0 : decode cX7_need 0 = .ok (.aload_n 0, 1) := by decide +kernel
theorem dX7_need_1 : decode cX7_need 1 = .ok (.iload_n 1, 1) := by decide +kernel
theorem dX7_need_2 : decode cX7_need 2 = .ok (.invokevirtual 368, 3) := by decide +kernel
theorem dX7_need_5 : decode cX7_need 5 = .ok (.ifCond .eq 10, 3) := by decide +kernel
theorem dX7_need_8 : decode cX7_need 8 = .ok (.aload_n 0, 1) := by decide +kernel
theorem dX7_need_9 : decode cX7_need 9 = .ok (.invokevirtual 371, 3) := by decide +kernel
theorem dX7_need_12 : decode cX7_need 12 = .ok (.goto 8, 3) := by decide +kernel
theorem dX7_need_15 : decode cX7_need 15 = .ok (.aload_n 0, 1) := by decide +kernel
theorem dX7_need_16 : decode cX7_need 16 = .ok (.iconst 1, 1) := by decide +kernel
theorem dX7_need_17 : decode cX7_need 17 = .ok (.invokevirtual 374, 3) := by decide +kernel
theorem dX7_need_20 : decode cX7_need 20 = .ok (.return_, 1) := by decide +kernel
theorem dX7_numeral_0 : decode cX7_numeral 0 = .ok (.aload_n 0, 1) := by decide +kernel
theorem dX7_numeral_1 : decode cX7_numeral 1 = .ok (.getfield 335, 3) := by decide +kernel
theorem dX7_numeral_4 : decode cX7_numeral 4 = .ok (.iconst 3, 1) := by decide +kernel
theorem dX7_numeral_5 : decode cX7_numeral 5 = .ok (.if_icmp .eq 11, 3) := by decide +kernel
theorem dX7_numeral_8 : decode cX7_numeral 8 = .ok (.aload_n 0, 1) := by decide +kernel
theorem dX7_numeral_9 : decode cX7_numeral 9 = .ok (.iconst 1, 1) := by decide +kernel
theorem dX7_numeral_10 : decode cX7_numeral 10 = .ok (.invokevirtual 374, 3) := by decide +kernel
theorem dX7_numeral_13 : decode cX7_numeral 13 = .ok (.goto 20, 3) := by decide +kernel
theorem dX7_numeral_16 : decode cX7_numeral 16 = .ok (.aload_n 0, 1) := by decide +kernel
theorem dX7_numeral_17 : decode cX7_numeral 17 = .ok (.getfield 359, 3) := by decide +kernel
theorem dX7_numeral_20 : decode cX7_numeral 20 = .ok (.iload_n 1, 1) := by decide +kernel
theorem dX7_numeral_21 : decode cX7_numeral 21 = .ok (.iload_n 2, 1) := by decide +kernel
theorem dX7_numeral_22 : decode cX7_numeral 22 = .ok (.invokestatic 94, 3) := by decide +kernel
theorem dX7_numeral_25 : decode cX7_numeral 25 = .ok (.ifCond .ne 8, 3) := by decide +kernel
theorem dX7_numeral_28 : decode cX7_numeral 28 = .ok (.aload_n 0, 1) := by decide +kernel
theorem dX7_numeral_29 : decode cX7_numeral 29 = .ok (.iconst 2, 1) := by decide +kernel
theorem dX7_numeral_30 : decode cX7_numeral 30 = .ok (.invokevirtual 374, 3) := by decide +kernel
theorem dX7_numeral_33 : decode cX7_numeral 33 = .ok (.aload_n 0, 1) := by decide +kernel
theorem dX7_numeral_34 : decode cX7_numeral 34 = .ok (.getfield 359, 3) := by decide +kernel
theorem dX7_numeral_37 : decode cX7_numeral 37 = .ok (.istore_n 3, 1) := by decide +kernel
theorem dX7_numeral_38 : decode cX7_numeral 38 = .ok (.aload_n 0, 1) := by decide +kernel
theorem dX7_numeral_39 : decode cX7_numeral 39 = .ok (.getfield 362, 3) := by decide +kernel
theorem dX7_numeral_42 : decode cX7_numeral 42 = .ok (.ifCond .ne 7, 3) := by decide +kernel
theorem dX7_numeral_45 : decode cX7_numeral 45 = .ok (.aload_n 0, 1) := by decide +kernel
theorem dX7_numeral_46 : decode cX7_numeral 46 = .ok (.invokevirtual 371, 3) := by decide +kernel
theorem dX7_numeral_49 : decode cX7_numeral 49 = .ok (.iload_n 3, 1) := by decide +kernel
theorem dX7_numeral_50 : decode cX7_numeral 50 = .ok (.ireturn, 1) := by decide +kernel
theorem dX7_isLetterHere_0 : decode cX7_isLetterHere 0 = .ok (.aload_n 0, 1) := by decide +kernel
theorem dX7_isLetterHere_1 : decode cX7_isLetterHere 1 = .ok (.getfield 362, 3) := by decide +kernel
theorem dX7_isLetterHere_4 : decode cX7_isLetterHere 4 = .ok (.ifCond .ne 28, 3) := by decide +kernel
theorem dX7_isLetterHere_7 : decode cX7_isLetterHere 7 = .ok (.aload_n 0, 1) := by decide +kernel
theorem dX7_isLetterHere_8 : decode cX7_isLetterHere 8 = .ok (.getfield 335, 3) := by decide +kernel
theorem dX7_isLetterHere_11 : decode cX7_isLetterHere 11 = .ok (.iconst 2, 1) := by decide +kernel
theorem dX7_isLetterHere_12 : decode cX7_isLetterHere 12 = .ok (.if_icmp .ne 20, 3) := by decide +kernel
theorem dX7_isLetterHere_15 : decode cX7_isLetterHere 15 = .ok (.aload_n 0, 1) := by decide +kernel
theorem dX7_isLetterHere_16 : decode cX7_isLetterHere 16 = .ok (.getfield 356, 3) := by decide +kernel
theorem dX7_isLetterHere_19 : decode cX7_isLetterHere 19 = .ok (.iconst 1, 1) := by decide +kernel
theorem dX7_isLetterHere_20 : decode cX7_isLetterHere 20 = .ok (.bipush 6, 2) := by decide +kernel
theorem dX7_isLetterHere_22 : decode cX7_isLetterHere 22 = .ok (.invokestatic 94, 3) := by decide +kernel
theorem dX7_isLetterHere_25 : decode cX7_isLetterHere 25 = .ok (.ifCond .eq 7, 3) := by decide +kernel
theorem dX7_isLetterHere_28 : decode cX7_isLetterHere 28 = .ok (.iconst 1, 1) := by decide +kernel
theorem dX7_isLetterHere_29 : decode cX7_isLetterHere 29 = .ok (.goto 4, 3) := by decide +kernel
theorem dX7_isLetterHere_32 : decode cX7_isLetterHere 32 = .ok (.iconst 0, 1) := by decide +kernel
theorem dX7_isLetterHere_33 : decode cX7_isLetterHere 33 = .ok (.ireturn, 1) := by decide +kernel
theorem dX7_letter_0 : decode cX7_letter 0 = .ok (.aload_n 0, 1) := by decide +kernel
theorem dX7_letter_1 : decode cX7_letter 1 = .ok (.invokevirtual 377, 3) := by decide +kernel
theorem dX7_letter_4 : decode cX7_letter 4 = .ok (.ifCond .ne 8, 3) := by decide +kernel
theorem dX7_letter_7 : decode cX7_letter 7 = .ok (.aload_n 0, 1) := by decide +kernel
theorem dX7_letter_8 : decode cX7_letter 8 = .ok (.iconst 1, 1) := by decide +kernel
theorem dX7_letter_9 : decode cX7_letter 9 = .ok (.invokevirtual 374, 3) := by decide +kernel
theorem dX7_letter_12 : decode cX7_letter 12 = .ok (.aload_n 0, 1) := by decide +kernel
theorem dX7_letter_13 : decode cX7_letter 13 = .ok (.getfield 356, 3) := by decide +kernel
theorem dX7_letter_16 : decode cX7_letter 16 = .ok (.iconst 1, 1) := by decide +kernel
theorem dX7_letter_17 : decode cX7_letter 17 = .ok (.isub, 1) := by decide +kernel
theorem dX7_letter_18 : decode cX7_letter 18 = .ok (.istore_n 1, 1) := by decide +kernel
theorem dX7_letter_19 : decode cX7_letter 19 = .ok (.aload_n 0, 1) := by decide +kernel
theorem dX7_letter_20 : decode cX7_letter 20 = .ok (.getfield 362, 3) := by decide +kernel
theorem dX7_letter_23 : decode cX7_letter 23 = .ok (.ifCond .ne 7, 3) := by decide +kernel
theorem dX7_letter_26 : decode cX7_letter 26 = .ok (.aload_n 0, 1) := by decide +kernel
theorem dX7_letter_27 : decode cX7_letter 27 = .ok (.invokevirtual 371, 3) := by decide +kernel
theorem dX7_letter_30 : decode cX7_letter 30 = .ok (.iload_n 1, 1) := by decide +kernel
theorem dX7_letter_31 : decode cX7_letter 31 = .ok (.ireturn, 1) := by decide +kernel
theorem dX7_lay_0 : decode cX7_lay 0 = .ok (.aload_n 0, 1) := by decide +kernel
theorem dX7_lay_1 : decode cX7_lay 1 = .ok (.getfield 35, 3) := by decide +kernel
theorem dX7_lay_4 : decode cX7_lay 4 = .ok (.aload_n 0, 1) := by decide +kernel
theorem dX7_lay_5 : decode cX7_lay 5 = .ok (.getfield 380, 3) := by decide +kernel
theorem dX7_lay_8 : decode cX7_lay 8 = .ok (.iload_n 1, 1) := by decide +kernel
theorem dX7_lay_9 : decode cX7_lay 9 = .ok (.iastore, 1) := by decide +kernel
theorem dX7_lay_10 : decode cX7_lay 10 = .ok (.aload_n 0, 1) := by decide +kernel
theorem dX7_lay_11 : decode cX7_lay 11 = .ok (.getfield 38, 3) := by decide +kernel
theorem dX7_lay_14 : decode cX7_lay 14 = .ok (.aload_n 0, 1) := by decide +kernel
theorem dX7_lay_15 : decode cX7_lay 15 = .ok (.getfield 380, 3) := by decide +kernel
theorem dX7_lay_18 : decode cX7_lay 18 = .ok (.iload_n 2, 1) := by decide +kernel
theorem dX7_lay_19 : decode cX7_lay 19 = .ok (.iastore, 1) := by decide +kernel
theorem dX7_lay_20 : decode cX7_lay 20 = .ok (.aload_n 0, 1) := by decide +kernel
theorem dX7_lay_21 : decode cX7_lay 21 = .ok (.getfield 41, 3) := by decide +kernel
theorem dX7_lay_24 : decode cX7_lay 24 = .ok (.aload_n 0, 1) := by decide +kernel
theorem dX7_lay_25 : decode cX7_lay 25 = .ok (.getfield 380, 3) := by decide +kernel
theorem dX7_lay_28 : decode cX7_lay 28 = .ok (.iload_n 3, 1) := by decide +kernel
theorem dX7_lay_29 : decode cX7_lay 29 = .ok (.iastore, 1) := by decide +kernel
theorem dX7_lay_30 : decode cX7_lay 30 = .ok (.aload_n 0, 1) := by decide +kernel
theorem dX7_lay_31 : decode cX7_lay 31 = .ok (.getfield 44, 3) := by decide +kernel
theorem dX7_lay_34 : decode cX7_lay 34 = .ok (.aload_n 0, 1) := by decide +kernel
theorem dX7_lay_35 : decode cX7_lay 35 = .ok (.getfield 380, 3) := by decide +kernel
theorem dX7_lay_38 : decode cX7_lay 38 = .ok (.iload 4, 2) := by decide +kernel
theorem dX7_lay_40 : decode cX7_lay 40 = .ok (.iastore, 1) := by decide +kernel
theorem dX7_lay_41 : decode cX7_lay 41 = .ok (.aload_n 0, 1) := by decide +kernel
theorem dX7_lay_42 : decode cX7_lay 42 = .ok (.dup, 1) := by decide +kernel
theorem dX7_lay_43 : decode cX7_lay 43 = .ok (.getfield 380, 3) := by decide +kernel
theorem dX7_lay_46 : decode cX7_lay 46 = .ok (.iconst 1, 1) := by decide +kernel
theorem dX7_lay_47 : decode cX7_lay 47 = .ok (.iadd, 1) := by decide +kernel
theorem dX7_lay_48 : decode cX7_lay 48 = .ok (.putfield 380, 3) := by decide +kernel
theorem dX7_lay_51 : decode cX7_lay 51 = .ok (.aload_n 0, 1) := by decide +kernel
theorem dX7_lay_52 : decode cX7_lay 52 = .ok (.getfield 47, 3) := by decide +kernel
theorem dX7_lay_55 : decode cX7_lay 55 = .ok (.aload_n 0, 1) := by decide +kernel
theorem dX7_lay_56 : decode cX7_lay 56 = .ok (.getfield 380, 3) := by decide +kernel
theorem dX7_lay_59 : decode cX7_lay 59 = .ok (.iconst 1, 1) := by decide +kernel
theorem dX7_lay_60 : decode cX7_lay 60 = .ok (.isub, 1) := by decide +kernel
theorem dX7_lay_61 : decode cX7_lay 61 = .ok (.aload_n 0, 1) := by decide +kernel
theorem dX7_lay_62 : decode cX7_lay 62 = .ok (.getfield 380, 3) := by decide +kernel
theorem dX7_lay_65 : decode cX7_lay 65 = .ok (.iastore, 1) := by decide +kernel
theorem dX7_lay_66 : decode cX7_lay 66 = .ok (.return_, 1) := by decide +kernel
theorem dX7_canBegin_0 : decode cX7_canBegin 0 = .ok (.aload_n 0, 1) := by decide +kernel
theorem dX7_canBegin_1 : decode cX7_canBegin 1 = .ok (.invokevirtual 377, 3) := by decide +kernel
theorem dX7_canBegin_4 : decode cX7_canBegin 4 = .ok (.ifCond .ne 33, 3) := by decide +kernel
theorem dX7_canBegin_7 : decode cX7_canBegin 7 = .ok (.aload_n 0, 1) := by decide +kernel
theorem dX7_canBegin_8 : decode cX7_canBegin 8 = .ok (.ldc_w 383, 3) := by decide +kernel
theorem dX7_canBegin_11 : decode cX7_canBegin 11 = .ok (.invokevirtual 384, 3) := by decide +kernel
theorem dX7_canBegin_14 : decode cX7_canBegin 14 = .ok (.ifCond .ne 23, 3) := by decide +kernel
theorem dX7_canBegin_17 : decode cX7_canBegin 17 = .ok (.aload_n 0, 1) := by decide +kernel
theorem dX7_canBegin_18 : decode cX7_canBegin 18 = .ok (.ldc_w 387, 3) := by decide +kernel
theorem dX7_canBegin_21 : decode cX7_canBegin 21 = .ok (.invokevirtual 384, 3) := by decide +kernel
theorem dX7_canBegin_24 : decode cX7_canBegin 24 = .ok (.ifCond .ne 13, 3) := by decide +kernel
theorem dX7_canBegin_27 : decode cX7_canBegin 27 = .ok (.aload_n 0, 1) := by decide +kernel
theorem dX7_canBegin_28 : decode cX7_canBegin 28 = .ok (.sipush 294, 3) := by decide +kernel
theorem dX7_canBegin_31 : decode cX7_canBegin 31 = .ok (.invokevirtual 384, 3) := by decide +kernel
theorem dX7_canBegin_34 : decode cX7_canBegin 34 = .ok (.ifCond .eq 7, 3) := by decide +kernel
theorem dX7_canBegin_37 : decode cX7_canBegin 37 = .ok (.iconst 1, 1) := by decide +kernel
theorem dX7_canBegin_38 : decode cX7_canBegin 38 = .ok (.goto 4, 3) := by decide +kernel
theorem dX7_canBegin_41 : decode cX7_canBegin 41 = .ok (.iconst 0, 1) := by decide +kernel
theorem dX7_canBegin_42 : decode cX7_canBegin 42 = .ok (.ireturn, 1) := by decide +kernel
theorem dX7_readItem_0 : decode cX7_readItem 0 = .ok (.aload_n 0, 1) := by decide +kernel
theorem dX7_readItem_1 : decode cX7_readItem 1 = .ok (.invokevirtual 388, 3) := by decide +kernel
theorem dX7_readItem_4 : decode cX7_readItem 4 = .ok (.ifCond .ne 11, 3) := by decide +kernel
theorem dX7_readItem_7 : decode cX7_readItem 7 = .ok (.aload_n 0, 1) := by decide +kernel
theorem dX7_readItem_8 : decode cX7_readItem 8 = .ok (.iconst 1, 1) := by decide +kernel
theorem dX7_readItem_9 : decode cX7_readItem 9 = .ok (.invokevirtual 374, 3) := by decide +kernel
theorem dX7_readItem_12 : decode cX7_readItem 12 = .ok (.goto 25, 3) := by decide +kernel
theorem dX7_readItem_15 : decode cX7_readItem 15 = .ok (.aload_n 0, 1) := by decide +kernel
theorem dX7_readItem_16 : decode cX7_readItem 16 = .ok (.getfield 391, 3) := by decide +kernel
theorem dX7_readItem_19 : decode cX7_readItem 19 = .ok (.iconst 3, 1) := by decide +kernel
theorem dX7_readItem_20 : decode cX7_readItem 20 = .ok (.if_icmp .gt 12, 3) := by decide +kernel
theorem dX7_readItem_23 : decode cX7_readItem 23 = .ok (.aload_n 0, 1) := by decide +kernel
theorem dX7_readItem_24 : decode cX7_readItem 24 = .ok (.getfield 380, 3) := by decide +kernel
theorem dX7_readItem_27 : decode cX7_readItem 27 = .ok (.bipush 40, 2) := by decide +kernel
theorem dX7_readItem_29 : decode cX7_readItem 29 = .ok (.if_icmp .ne 8, 3) := by decide +kernel
theorem dX7_readItem_32 : decode cX7_readItem 32 = .ok (.aload_n 0, 1) := by decide +kernel
theorem dX7_readItem_33 : decode cX7_readItem 33 = .ok (.iconst 3, 1) := by decide +kernel
theorem dX7_readItem_34 : decode cX7_readItem 34 = .ok (.invokevirtual 374, 3) := by decide +kernel
theorem dX7_readItem_37 : decode cX7_readItem 37 = .ok (.aload_n 0, 1) := by decide +kernel
theorem dX7_readItem_38 : decode cX7_readItem 38 = .ok (.getfield 362, 3) := by decide +kernel
theorem dX7_readItem_41 : decode cX7_readItem 41 = .ok (.ifCond .le 4, 3) := by decide +kernel
theorem dX7_readItem_44 : decode cX7_readItem 44 = .ok (.return_, 1) := by decide +kernel
theorem dX7_readItem_45 : decode cX7_readItem 45 = .ok (.aload_n 0, 1) := by decide +kernel
theorem dX7_readItem_46 : decode cX7_readItem 46 = .ok (.ldc_w 383, 3) := by decide +kernel
theorem dX7_readItem_49 : decode cX7_readItem 49 = .ok (.invokevirtual 384, 3) := by decide +kernel
theorem dX7_readItem_52 : decode cX7_readItem 52 = .ok (.ifCond .eq 10, 3) := by decide +kernel
theorem dX7_readItem_55 : decode cX7_readItem 55 = .ok (.aload_n 0, 1) := by decide +kernel
theorem dX7_readItem_56 : decode cX7_readItem 56 = .ok (.invokevirtual 394, 3) := by decide +kernel
theorem dX7_readItem_59 : decode cX7_readItem 59 = .ok (.goto 41, 3) := by decide +kernel
theorem dX7_readItem_62 : decode cX7_readItem 62 = .ok (.aload_n 0, 1) := by decide +kernel
theorem dX7_readItem_63 : decode cX7_readItem 63 = .ok (.ldc_w 387, 3) := by decide +kernel
theorem dX7_readItem_66 : decode cX7_readItem 66 = .ok (.invokevirtual 384, 3) := by decide +kernel
theorem dX7_readItem_69 : decode cX7_readItem 69 = .ok (.ifCond .ne 13, 3) := by decide +kernel
theorem dX7_readItem_72 : decode cX7_readItem 72 = .ok (.aload_n 0, 1) := by decide +kernel
theorem dX7_readItem_73 : decode cX7_readItem 73 = .ok (.sipush 294, 3) := by decide +kernel
theorem dX7_readItem_76 : decode cX7_readItem 76 = .ok (.invokevirtual 384, 3) := by decide +kernel
theorem dX7_readItem_79 : decode cX7_readItem 79 = .ok (.ifCond .eq 17, 3) := by decide +kernel
theorem dX7_readItem_82 : decode cX7_readItem 82 = .ok (.aload_n 0, 1) := by decide +kernel
theorem dX7_readItem_83 : decode cX7_readItem 83 = .ok (.aload_n 0, 1) := by decide +kernel
theorem dX7_readItem_84 : decode cX7_readItem 84 = .ok (.ldc_w 387, 3) := by decide +kernel
theorem dX7_readItem_87 : decode cX7_readItem 87 = .ok (.invokevirtual 384, 3) := by decide +kernel
theorem dX7_readItem_90 : decode cX7_readItem 90 = .ok (.invokevirtual 397, 3) := by decide +kernel
theorem dX7_readItem_93 : decode cX7_readItem 93 = .ok (.goto 7, 3) := by decide +kernel
theorem dX7_readItem_96 : decode cX7_readItem 96 = .ok (.aload_n 0, 1) := by decide +kernel
theorem dX7_readItem_97 : decode cX7_readItem 97 = .ok (.invokevirtual 401, 3) := by decide +kernel
theorem dX7_readItem_100 : decode cX7_readItem 100 = .ok (.return_, 1) := by decide +kernel
theorem dX7_readStep_0 : decode cX7_readStep 0 = .ok (.aload_n 0, 1) := by decide +kernel
theorem dX7_readStep_1 : decode cX7_readStep 1 = .ok (.invokevirtual 371, 3) := by decide +kernel
theorem dX7_readStep_4 : decode cX7_readStep 4 = .ok (.aload_n 0, 1) := by decide +kernel
theorem dX7_readStep_5 : decode cX7_readStep 5 = .ok (.iconst 1, 1) := by decide +kernel
theorem dX7_readStep_6 : decode cX7_readStep 6 = .ok (.bipush 99, 2) := by decide +kernel
theorem dX7_readStep_8 : decode cX7_readStep 8 = .ok (.invokevirtual 404, 3) := by decide +kernel
theorem dX7_readStep_11 : decode cX7_readStep 11 = .ok (.istore_n 1, 1) := by decide +kernel
theorem dX7_readStep_12 : decode cX7_readStep 12 = .ok (.aload_n 0, 1) := by decide +kernel
theorem dX7_readStep_13 : decode cX7_readStep 13 = .ok (.bipush 59, 2) := by decide +kernel
theorem dX7_readStep_15 : decode cX7_readStep 15 = .ok (.invokevirtual 407, 3) := by decide +kernel
theorem dX7_readStep_18 : decode cX7_readStep 18 = .ok (.aload_n 0, 1) := by decide +kernel
theorem dX7_readStep_19 : decode cX7_readStep 19 = .ok (.bipush 6, 2) := by decide +kernel
theorem dX7_readStep_21 : decode cX7_readStep 21 = .ok (.iload_n 1, 1) := by decide +kernel
theorem dX7_readStep_22 : decode cX7_readStep 22 = .ok (.iconst 0, 1) := by decide +kernel
theorem dX7_readStep_23 : decode cX7_readStep 23 = .ok (.iconst 0, 1) := by decide +kernel
theorem dX7_readStep_24 : decode cX7_readStep 24 = .ok (.invokevirtual 410, 3) := by decide +kernel
theorem dX7_readStep_27 : decode cX7_readStep 27 = .ok (.return_, 1) := by decide +kernel
theorem dX7_readBlock_0 : decode cX7_readBlock 0 = .ok (.aload_n 0, 1) := by decide +kernel
theorem dX7_readBlock_1 : decode cX7_readBlock 1 = .ok (.invokevirtual 371, 3) := by decide +kernel
theorem dX7_readBlock_4 : decode cX7_readBlock 4 = .ok (.iload_n 1, 1) := by decide +kernel
theorem dX7_readBlock_5 : decode cX7_readBlock 5 = .ok (.ifCond .eq 13, 3) := by decide +kernel
theorem dX7_readBlock_8 : decode cX7_readBlock 8 = .ok (.aload_n 0, 1) := by decide +kernel
theorem dX7_readBlock_9 : decode cX7_readBlock 9 = .ok (.iconst 2, 1) := by decide +kernel
theorem dX7_readBlock_10 : decode cX7_readBlock 10 = .ok (.bipush 9, 2) := by decide +kernel
theorem dX7_readBlock_12 : decode cX7_readBlock 12 = .ok (.invokevirtual 404, 3) := by decide +kernel
theorem dX7_readBlock_15 : decode cX7_readBlock 15 = .ok (.goto 7, 3) := by decide +kernel
theorem dX7_readBlock_18 : decode cX7_readBlock 18 = .ok (.aload_n 0, 1) := by decide +kernel
theorem dX7_readBlock_19 : decode cX7_readBlock 19 = .ok (.invokevirtual 414, 3) := by decide +kernel
theorem dX7_readBlock_22 : decode cX7_readBlock 22 = .ok (.istore_n 2, 1) := by decide +kernel
theorem dX7_readBlock_23 : decode cX7_readBlock 23 = .ok (.aload_n 0, 1) := by decide +kernel
theorem dX7_readBlock_24 : decode cX7_readBlock 24 = .ok (.bipush 123, 2) := by decide +kernel
theorem dX7_readBlock_26 : decode cX7_readBlock 26 = .ok (.invokevirtual 407, 3) := by decide +kernel
theorem dX7_readBlock_29 : decode cX7_readBlock 29 = .ok (.aload_n 0, 1) := by decide +kernel
theorem dX7_readBlock_30 : decode cX7_readBlock 30 = .ok (.getfield 362, 3) := by decide +kernel
theorem dX7_readBlock_33 : decode cX7_readBlock 33 = .ok (.ifCond .le 4, 3) := by decide +kernel
theorem dX7_readBlock_36 : decode cX7_readBlock 36 = .ok (.return_, 1) := by decide +kernel
theorem dX7_readBlock_37 : decode cX7_readBlock 37 = .ok (.aload_n 0, 1) := by decide +kernel
theorem dX7_readBlock_38 : decode cX7_readBlock 38 = .ok (.getfield 69, 3) := by decide +kernel
theorem dX7_readBlock_41 : decode cX7_readBlock 41 = .ok (.aload_n 0, 1) := by decide +kernel
theorem dX7_readBlock_42 : decode cX7_readBlock 42 = .ok (.getfield 391, 3) := by decide +kernel
theorem dX7_readBlock_45 : decode cX7_readBlock 45 = .ok (.aload_n 0, 1) := by decide +kernel
theorem dX7_readBlock_46 : decode cX7_readBlock 46 = .ok (.getfield 380, 3) := by decide +kernel
theorem dX7_readBlock_49 : decode cX7_readBlock 49 = .ok (.iastore, 1) := by decide +kernel
theorem dX7_readBlock_50 : decode cX7_readBlock 50 = .ok (.aload_n 0, 1) := by decide +kernel
theorem dX7_readBlock_51 : decode cX7_readBlock 51 = .ok (.dup, 1) := by decide +kernel
theorem dX7_readBlock_52 : decode cX7_readBlock 52 = .ok (.getfield 391, 3) := by decide +kernel
theorem dX7_readBlock_55 : decode cX7_readBlock 55 = .ok (.iconst 1, 1) := by decide +kernel
theorem dX7_readBlock_56 : decode cX7_readBlock 56 = .ok (.iadd, 1) := by decide +kernel
theorem dX7_readBlock_57 : decode cX7_readBlock 57 = .ok (.putfield 391, 3) := by decide +kernel
theorem dX7_readBlock_60 : decode cX7_readBlock 60 = .ok (.aload_n 0, 1) := by decide +kernel
