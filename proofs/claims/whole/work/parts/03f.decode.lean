theorem dX7_look_52 : decode cX7_look 52 = .ok (.iinc 2 1, 3) := by decide +kernel
theorem dX7_look_55 : decode cX7_look 55 = .ok (.goto (-39), 3) := by decide +kernel
theorem dX7_look_58 : decode cX7_look 58 = .ok (.iconst 0, 1) := by decide +kernel
theorem dX7_look_59 : decode cX7_look 59 = .ok (.istore_n 2, 1) := by decide +kernel
theorem dX7_look_60 : decode cX7_look 60 = .ok (.iload_n 2, 1) := by decide +kernel
theorem dX7_look_61 : decode cX7_look 61 = .ok (.aload_n 0, 1) := by decide +kernel
theorem dX7_look_62 : decode cX7_look 62 = .ok (.getfield 7, 3) := by decide +kernel
theorem dX7_look_65 : decode cX7_look 65 = .ok (.sipush 725, 3) := by decide +kernel
theorem dX7_look_68 : decode cX7_look 68 = .ok (.iaload, 1) := by decide +kernel
theorem dX7_look_69 : decode cX7_look 69 = .ok (.if_icmp .ge 47, 3) := by decide +kernel
theorem dX7_look_72 : decode cX7_look 72 = .ok (.aload_n 0, 1) := by decide +kernel
theorem dX7_look_73 : decode cX7_look 73 = .ok (.getfield 7, 3) := by decide +kernel
theorem dX7_look_76 : decode cX7_look 76 = .ok (.sipush 707, 3) := by decide +kernel
theorem dX7_look_79 : decode cX7_look 79 = .ok (.iload_n 2, 1) := by decide +kernel
theorem dX7_look_80 : decode cX7_look 80 = .ok (.iadd, 1) := by decide +kernel
theorem dX7_look_81 : decode cX7_look 81 = .ok (.iaload, 1) := by decide +kernel
theorem dX7_look_82 : decode cX7_look 82 = .ok (.iload_n 1, 1) := by decide +kernel
theorem dX7_look_83 : decode cX7_look 83 = .ok (.if_icmp .eq 27, 3) := by decide +kernel
theorem dX7_look_86 : decode cX7_look 86 = .ok (.aload_n 0, 1) := by decide +kernel
theorem dX7_look_87 : decode cX7_look 87 = .ok (.iload_n 2, 1) := by decide +kernel
theorem dX7_look_88 : decode cX7_look 88 = .ok (.invokevirtual 195, 3) := by decide +kernel
theorem dX7_look_91 : decode cX7_look 91 = .ok (.ifCond .ne 6, 3) := by decide +kernel
theorem dX7_look_94 : decode cX7_look 94 = .ok (.goto 16, 3) := by decide +kernel
theorem dX7_look_97 : decode cX7_look 97 = .ok (.aload_n 0, 1) := by decide +kernel
theorem dX7_look_98 : decode cX7_look 98 = .ok (.iload_n 2, 1) := by decide +kernel
theorem dX7_look_99 : decode cX7_look 99 = .ok (.invokevirtual 198, 3) := by decide +kernel
theorem dX7_look_102 : decode cX7_look 102 = .ok (.aload_n 0, 1) := by decide +kernel
theorem dX7_look_103 : decode cX7_look 103 = .ok (.iload_n 2, 1) := by decide +kernel
theorem dX7_look_104 : decode cX7_look 104 = .ok (.iload_n 1, 1) := by decide +kernel
theorem dX7_look_105 : decode cX7_look 105 = .ok (.invokevirtual 192, 3) := by decide +kernel
theorem dX7_look_108 : decode cX7_look 108 = .ok (.iconst 1, 1) := by decide +kernel
theorem dX7_look_109 : decode cX7_look 109 = .ok (.ireturn, 1) := by decide +kernel
theorem dX7_look_110 : decode cX7_look 110 = .ok (.iinc 2 1, 3) := by decide +kernel
theorem dX7_look_113 : decode cX7_look 113 = .ok (.goto (-53), 3) := by decide +kernel
theorem dX7_look_116 : decode cX7_look 116 = .ok (.iconst 0, 1) := by decide +kernel
theorem dX7_look_117 : decode cX7_look 117 = .ok (.ireturn, 1) := by decide +kernel
theorem dX7_find_0 : decode cX7_find 0 = .ok (.aload_n 0, 1) := by decide +kernel
theorem dX7_find_1 : decode cX7_find 1 = .ok (.iload_n 1, 1) := by decide +kernel
theorem dX7_find_2 : decode cX7_find 2 = .ok (.invokevirtual 201, 3) := by decide +kernel
theorem dX7_find_5 : decode cX7_find 5 = .ok (.ifCond .eq 5, 3) := by decide +kernel
theorem dX7_find_8 : decode cX7_find 8 = .ok (.iconst 1, 1) := by decide +kernel
theorem dX7_find_9 : decode cX7_find 9 = .ok (.ireturn, 1) := by decide +kernel
theorem dX7_find_10 : decode cX7_find 10 = .ok (.aload_n 0, 1) := by decide +kernel
theorem dX7_find_11 : decode cX7_find 11 = .ok (.invokevirtual 181, 3) := by decide +kernel
theorem dX7_find_14 : decode cX7_find 14 = .ok (.ifCond .eq 17, 3) := by decide +kernel
theorem dX7_find_17 : decode cX7_find 17 = .ok (.aload_n 0, 1) := by decide +kernel
theorem dX7_find_18 : decode cX7_find 18 = .ok (.invokevirtual 204, 3) := by decide +kernel
theorem dX7_find_21 : decode cX7_find 21 = .ok (.aload_n 0, 1) := by decide +kernel
theorem dX7_find_22 : decode cX7_find 22 = .ok (.iload_n 1, 1) := by decide +kernel
theorem dX7_find_23 : decode cX7_find 23 = .ok (.invokevirtual 201, 3) := by decide +kernel
theorem dX7_find_26 : decode cX7_find 26 = .ok (.ifCond .eq 5, 3) := by decide +kernel
theorem dX7_find_29 : decode cX7_find 29 = .ok (.iconst 1, 1) := by decide +kernel
theorem dX7_find_30 : decode cX7_find 30 = .ok (.ireturn, 1) := by decide +kernel
theorem dX7_find_31 : decode cX7_find 31 = .ok (.aload_n 0, 1) := by decide +kernel
theorem dX7_find_32 : decode cX7_find 32 = .ok (.invokevirtual 207, 3) := by decide +kernel
theorem dX7_find_35 : decode cX7_find 35 = .ok (.aload_n 0, 1) := by decide +kernel
theorem dX7_find_36 : decode cX7_find 36 = .ok (.invokevirtual 204, 3) := by decide +kernel
theorem dX7_find_39 : decode cX7_find 39 = .ok (.aload_n 0, 1) := by decide +kernel
theorem dX7_find_40 : decode cX7_find 40 = .ok (.iload_n 1, 1) := by decide +kernel
theorem dX7_find_41 : decode cX7_find 41 = .ok (.invokevirtual 201, 3) := by decide +kernel
theorem dX7_find_44 : decode cX7_find 44 = .ok (.ireturn, 1) := by decide +kernel
theorem dX7_goMake_0 : decode cX7_goMake 0 = .ok (.aload_n 0, 1) := by decide +kernel
theorem dX7_goMake_1 : decode cX7_goMake 1 = .ok (.invokevirtual 181, 3) := by decide +kernel
theorem dX7_goMake_4 : decode cX7_goMake 4 = .ok (.ifCond .eq 16, 3) := by decide +kernel
theorem dX7_goMake_7 : decode cX7_goMake 7 = .ok (.aload_n 0, 1) := by decide +kernel
theorem dX7_goMake_8 : decode cX7_goMake 8 = .ok (.aload_n 0, 1) := by decide +kernel
theorem dX7_goMake_9 : decode cX7_goMake 9 = .ok (.getfield 7, 3) := by decide +kernel
theorem dX7_goMake_12 : decode cX7_goMake 12 = .ok (.sipush 737, 3) := by decide +kernel
theorem dX7_goMake_15 : decode cX7_goMake 15 = .ok (.iaload, 1) := by decide +kernel
theorem dX7_goMake_16 : decode cX7_goMake 16 = .ok (.invokevirtual 189, 3) := by decide +kernel
theorem dX7_goMake_19 : decode cX7_goMake 19 = .ok (.pop, 1) := by decide +kernel
theorem dX7_goMake_20 : decode cX7_goMake 20 = .ok (.iload_n 2, 1) := by decide +kernel
theorem dX7_goMake_21 : decode cX7_goMake 21 = .ok (.invokestatic 210, 3) := by decide +kernel
theorem dX7_goMake_24 : decode cX7_goMake 24 = .ok (.istore_n 3, 1) := by decide +kernel
theorem dX7_goMake_25 : decode cX7_goMake 25 = .ok (.iload_n 3, 1) := by decide +kernel
theorem dX7_goMake_26 : decode cX7_goMake 26 = .ok (.invokestatic 125, 3) := by decide +kernel
theorem dX7_goMake_29 : decode cX7_goMake 29 = .ok (.istore 4, 2) := by decide +kernel
theorem dX7_goMake_31 : decode cX7_goMake 31 = .ok (.aload_n 0, 1) := by decide +kernel
theorem dX7_goMake_32 : decode cX7_goMake 32 = .ok (.iload_n 3, 1) := by decide +kernel
theorem dX7_goMake_33 : decode cX7_goMake 33 = .ok (.invokevirtual 213, 3) := by decide +kernel
theorem dX7_goMake_36 : decode cX7_goMake 36 = .ok (.ifCond .ne 6, 3) := by decide +kernel
theorem dX7_goMake_39 : decode cX7_goMake 39 = .ok (.bipush (-2), 2) := by decide +kernel
theorem dX7_goMake_41 : decode cX7_goMake 41 = .ok (.ireturn, 1) := by decide +kernel
theorem dX7_goMake_42 : decode cX7_goMake 42 = .ok (.aload_n 0, 1) := by decide +kernel
theorem dX7_goMake_43 : decode cX7_goMake 43 = .ok (.getfield 7, 3) := by decide +kernel
theorem dX7_goMake_46 : decode cX7_goMake 46 = .ok (.iload 4, 2) := by decide +kernel
theorem dX7_goMake_48 : decode cX7_goMake 48 = .ok (.iconst 0, 1) := by decide +kernel
theorem dX7_goMake_49 : decode cX7_goMake 49 = .ok (.invokestatic 112, 3) := by decide +kernel
theorem dX7_goMake_52 : decode cX7_goMake 52 = .ok (.iaload, 1) := by decide +kernel
theorem dX7_goMake_53 : decode cX7_goMake 53 = .ok (.istore 5, 2) := by decide +kernel
theorem dX7_goMake_55 : decode cX7_goMake 55 = .ok (.aload_n 0, 1) := by decide +kernel
theorem dX7_goMake_56 : decode cX7_goMake 56 = .ok (.iload 4, 2) := by decide +kernel
theorem dX7_goMake_58 : decode cX7_goMake 58 = .ok (.iload 5, 2) := by decide +kernel
theorem dX7_goMake_60 : decode cX7_goMake 60 = .ok (.invokevirtual 128, 3) := by decide +kernel
theorem dX7_goMake_63 : decode cX7_goMake 63 = .ok (.aload_n 0, 1) := by decide +kernel
theorem dX7_goMake_64 : decode cX7_goMake 64 = .ok (.getfield 7, 3) := by decide +kernel
theorem dX7_goMake_67 : decode cX7_goMake 67 = .ok (.iconst 0, 1) := by decide +kernel
theorem dX7_goMake_68 : decode cX7_goMake 68 = .ok (.iload 5, 2) := by decide +kernel
theorem dX7_goMake_70 : decode cX7_goMake 70 = .ok (.iadd, 1) := by decide +kernel
theorem dX7_goMake_71 : decode cX7_goMake 71 = .ok (.iconst 3, 1) := by decide +kernel
theorem dX7_goMake_72 : decode cX7_goMake 72 = .ok (.iastore, 1) := by decide +kernel
theorem dX7_goMake_73 : decode cX7_goMake 73 = .ok (.aload_n 0, 1) := by decide +kernel
theorem dX7_goMake_74 : decode cX7_goMake 74 = .ok (.iload 4, 2) := by decide +kernel
theorem dX7_goMake_76 : decode cX7_goMake 76 = .ok (.aload_n 0, 1) := by decide +kernel
theorem dX7_goMake_77 : decode cX7_goMake 77 = .ok (.iload 4, 2) := by decide +kernel
theorem dX7_goMake_79 : decode cX7_goMake 79 = .ok (.invokevirtual 116, 3) := by decide +kernel
theorem dX7_goMake_82 : decode cX7_goMake 82 = .ok (.iload 5, 2) := by decide +kernel
theorem dX7_goMake_84 : decode cX7_goMake 84 = .ok (.invokevirtual 135, 3) := by decide +kernel
theorem dX7_goMake_87 : decode cX7_goMake 87 = .ok (.aload_n 0, 1) := by decide +kernel
theorem dX7_goMake_88 : decode cX7_goMake 88 = .ok (.getfield 7, 3) := by decide +kernel
theorem dX7_goMake_91 : decode cX7_goMake 91 = .ok (.sipush 128, 3) := by decide +kernel
theorem dX7_goMake_94 : decode cX7_goMake 94 = .ok (.iload 5, 2) := by decide +kernel
theorem dX7_goMake_96 : decode cX7_goMake 96 = .ok (.iadd, 1) := by decide +kernel
theorem dX7_goMake_97 : decode cX7_goMake 97 = .ok (.iload_n 2, 1) := by decide +kernel
theorem dX7_goMake_98 : decode cX7_goMake 98 = .ok (.iastore, 1) := by decide +kernel
theorem dX7_goMake_99 : decode cX7_goMake 99 = .ok (.iconst 0, 1) := by decide +kernel
theorem dX7_goMake_100 : decode cX7_goMake 100 = .ok (.istore 6, 2) := by decide +kernel
theorem dX7_goMake_102 : decode cX7_goMake 102 = .ok (.iload 6, 2) := by decide +kernel
theorem dX7_goMake_104 : decode cX7_goMake 104 = .ok (.iload_n 2, 1) := by decide +kernel
theorem dX7_goMake_105 : decode cX7_goMake 105 = .ok (.if_icmp .ge 22, 3) := by decide +kernel
theorem dX7_goMake_108 : decode cX7_goMake 108 = .ok (.aload_n 0, 1) := by decide +kernel
theorem dX7_goMake_109 : decode cX7_goMake 109 = .ok (.getfield 7, 3) := by decide +kernel
theorem dX7_goMake_112 : decode cX7_goMake 112 = .ok (.iload 5, 2) := by decide +kernel
theorem dX7_goMake_114 : decode cX7_goMake 114 = .ok (.iload 6, 2) := by decide +kernel
theorem dX7_goMake_116 : decode cX7_goMake 116 = .ok (.invokestatic 161, 3) := by decide +kernel
theorem dX7_goMake_119 : decode cX7_goMake 119 = .ok (.iconst (-1), 1) := by decide +kernel
theorem dX7_goMake_120 : decode cX7_goMake 120 = .ok (.iastore, 1) := by decide +kernel
theorem dX7_goMake_121 : decode cX7_goMake 121 = .ok (.iinc 6 1, 3) := by decide +kernel
theorem dX7_goMake_124 : decode cX7_goMake 124 = .ok (.goto (-22), 3) := by decide +kernel
theorem dX7_goMake_127 : decode cX7_goMake 127 = .ok (.aload_n 0, 1) := by decide +kernel
theorem dX7_goMake_128 : decode cX7_goMake 128 = .ok (.getfield 7, 3) := by decide +kernel
theorem dX7_goMake_131 : decode cX7_goMake 131 = .ok (.sipush 715, 3) := by decide +kernel
theorem dX7_goMake_134 : decode cX7_goMake 134 = .ok (.iload_n 1, 1) := by decide +kernel
theorem dX7_goMake_135 : decode cX7_goMake 135 = .ok (.iadd, 1) := by decide +kernel
theorem dX7_goMake_136 : decode cX7_goMake 136 = .ok (.iload 5, 2) := by decide +kernel
theorem dX7_goMake_138 : decode cX7_goMake 138 = .ok (.iastore, 1) := by decide +kernel
theorem dX7_goMake_139 : decode cX7_goMake 139 = .ok (.aload_n 0, 1) := by decide +kernel
theorem dX7_goMake_140 : decode cX7_goMake 140 = .ok (.getfield 7, 3) := by decide +kernel
theorem dX7_goMake_143 : decode cX7_goMake 143 = .ok (.sipush 733, 3) := by decide +kernel
theorem dX7_goMake_146 : decode cX7_goMake 146 = .ok (.dup2, 1) := by decide +kernel
theorem dX7_goMake_147 : decode cX7_goMake 147 = .ok (.iaload, 1) := by decide +kernel
theorem dX7_goMake_148 : decode cX7_goMake 148 = .ok (.iconst 1, 1) := by decide +kernel
theorem dX7_goMake_149 : decode cX7_goMake 149 = .ok (.iadd, 1) := by decide +kernel
theorem dX7_goMake_150 : decode cX7_goMake 150 = .ok (.iastore, 1) := by decide +kernel
theorem dX7_goMake_151 : decode cX7_goMake 151 = .ok (.aload_n 0, 1) := by decide +kernel
theorem dX7_goMake_152 : decode cX7_goMake 152 = .ok (.invokevirtual 181, 3) := by decide +kernel
theorem dX7_goMake_155 : decode cX7_goMake 155 = .ok (.ifCond .ne 25, 3) := by decide +kernel
theorem dX7_goMake_158 : decode cX7_goMake 158 = .ok (.aload_n 0, 1) := by decide +kernel
theorem dX7_goMake_159 : decode cX7_goMake 159 = .ok (.iload 4, 2) := by decide +kernel
theorem dX7_goMake_161 : decode cX7_goMake 161 = .ok (.iconst 0, 1) := by decide +kernel
theorem dX7_goMake_162 : decode cX7_goMake 162 = .ok (.invokevirtual 119, 3) := by decide +kernel
theorem dX7_goMake_165 : decode cX7_goMake 165 = .ok (.aload_n 0, 1) := by decide +kernel
theorem dX7_goMake_166 : decode cX7_goMake 166 = .ok (.getfield 7, 3) := by decide +kernel
theorem dX7_goMake_169 : decode cX7_goMake 169 = .ok (.sipush 738, 3) := by decide +kernel
theorem dX7_goMake_172 : decode cX7_goMake 172 = .ok (.iaload, 1) := by decide +kernel
theorem dX7_goMake_173 : decode cX7_goMake 173 = .ok (.if_icmp .ge 7, 3) := by decide +kernel
theorem dX7_goMake_176 : decode cX7_goMake 176 = .ok (.aload_n 0, 1) := by decide +kernel
theorem dX7_goMake_177 : decode cX7_goMake 177 = .ok (.invokevirtual 207, 3) := by decide +kernel
theorem dX7_goMake_180 : decode cX7_goMake 180 = .ok (.iload 5, 2) := by decide +kernel
theorem dX7_goMake_182 : decode cX7_goMake 182 = .ok (.ireturn, 1) := by decide +kernel
theorem dX7_make_0 : decode cX7_make 0 = .ok (.iload_n 1, 1) := by decide +kernel
theorem dX7_make_1 : decode cX7_make 1 = .ok (.invokestatic 216, 3) := by decide +kernel
theorem dX7_make_4 : decode cX7_make 4 = .ok (.ifCond .eq 13, 3) := by decide +kernel
theorem dX7_make_7 : decode cX7_make 7 = .ok (.iload_n 2, 1) := by decide +kernel
theorem dX7_make_8 : decode cX7_make 8 = .ok (.iconst 0, 1) := by decide +kernel
theorem dX7_make_9 : decode cX7_make 9 = .ok (.bipush 7, 2) := by decide +kernel
theorem dX7_make_11 : decode cX7_make 11 = .ok (.invokestatic 94, 3) := by decide +kernel
theorem dX7_make_14 : decode cX7_make 14 = .ok (.ifCond .ne 5, 3) := by decide +kernel
theorem dX7_make_17 : decode cX7_make 17 = .ok (.iconst (-1), 1) := by decide +kernel
theorem dX7_make_18 : decode cX7_make 18 = .ok (.ireturn, 1) := by decide +kernel
theorem dX7_make_19 : decode cX7_make 19 = .ok (.aload_n 0, 1) := by decide +kernel
theorem dX7_make_20 : decode cX7_make 20 = .ok (.invokevirtual 219, 3) := by decide +kernel
theorem dX7_make_23 : decode cX7_make 23 = .ok (.aload_n 0, 1) := by decide +kernel
theorem dX7_make_24 : decode cX7_make 24 = .ok (.iload_n 1, 1) := by decide +kernel
theorem dX7_make_25 : decode cX7_make 25 = .ok (.iload_n 2, 1) := by decide +kernel
theorem dX7_make_26 : decode cX7_make 26 = .ok (.invokevirtual 222, 3) := by decide +kernel
theorem dX7_make_29 : decode cX7_make 29 = .ok (.ireturn, 1) := by decide +kernel
theorem dX7_canLoad_0 : decode cX7_canLoad 0 = .ok (.iload_n 1, 1) := by decide +kernel
theorem dX7_canLoad_1 : decode cX7_canLoad 1 = .ok (.invokestatic 216, 3) := by decide +kernel
theorem dX7_canLoad_4 : decode cX7_canLoad 4 = .ok (.ifCond .eq 45, 3) := by decide +kernel
theorem dX7_canLoad_7 : decode cX7_canLoad 7 = .ok (.iload_n 2, 1) := by decide +kernel
theorem dX7_canLoad_8 : decode cX7_canLoad 8 = .ok (.invokestatic 216, 3) := by decide +kernel
theorem dX7_canLoad_11 : decode cX7_canLoad 11 = .ok (.ifCond .eq 38, 3) := by decide +kernel
theorem dX7_canLoad_14 : decode cX7_canLoad 14 = .ok (.aload_n 0, 1) := by decide +kernel
theorem dX7_canLoad_15 : decode cX7_canLoad 15 = .ok (.getfield 7, 3) := by decide +kernel
theorem dX7_canLoad_18 : decode cX7_canLoad 18 = .ok (.sipush 715, 3) := by decide +kernel
theorem dX7_canLoad_21 : decode cX7_canLoad 21 = .ok (.iload_n 2, 1) := by decide +kernel
theorem dX7_canLoad_22 : decode cX7_canLoad 22 = .ok (.iadd, 1) := by decide +kernel
theorem dX7_canLoad_23 : decode cX7_canLoad 23 = .ok (.iaload, 1) := by decide +kernel
theorem dX7_canLoad_24 : decode cX7_canLoad 24 = .ok (.ifCond .lt 25, 3) := by decide +kernel
theorem dX7_canLoad_27 : decode cX7_canLoad 27 = .ok (.aload_n 0, 1) := by decide +kernel
theorem dX7_canLoad_28 : decode cX7_canLoad 28 = .ok (.aload_n 0, 1) := by decide +kernel
theorem dX7_canLoad_29 : decode cX7_canLoad 29 = .ok (.getfield 7, 3) := by decide +kernel
theorem dX7_canLoad_32 : decode cX7_canLoad 32 = .ok (.sipush 715, 3) := by decide +kernel
theorem dX7_canLoad_35 : decode cX7_canLoad 35 = .ok (.iload_n 2, 1) := by decide +kernel
theorem dX7_canLoad_36 : decode cX7_canLoad 36 = .ok (.iadd, 1) := by decide +kernel
theorem dX7_canLoad_37 : decode cX7_canLoad 37 = .ok (.iaload, 1) := by decide +kernel
theorem dX7_canLoad_38 : decode cX7_canLoad 38 = .ok (.iload_n 3, 1) := by decide +kernel
theorem dX7_canLoad_39 : decode cX7_canLoad 39 = .ok (.invokevirtual 225, 3) := by decide +kernel
theorem dX7_canLoad_42 : decode cX7_canLoad 42 = .ok (.ifCond .eq 7, 3) := by decide +kernel
theorem dX7_canLoad_45 : decode cX7_canLoad 45 = .ok (.iconst 1, 1) := by decide +kernel
theorem dX7_canLoad_46 : decode cX7_canLoad 46 = .ok (.goto 4, 3) := by decide +kernel
theorem dX7_canLoad_49 : decode cX7_canLoad 49 = .ok (.iconst 0, 1) := by decide +kernel
theorem dX7_canLoad_50 : decode cX7_canLoad 50 = .ok (.ireturn, 1) := by decide +kernel
theorem dX7_goLoad_0 : decode cX7_goLoad 0 = .ok (.aload_n 0, 1) := by decide +kernel
theorem dX7_goLoad_1 : decode cX7_goLoad 1 = .ok (.getfield 7, 3) := by decide +kernel
theorem dX7_goLoad_4 : decode cX7_goLoad 4 = .ok (.aload_n 0, 1) := by decide +kernel
theorem dX7_goLoad_5 : decode cX7_goLoad 5 = .ok (.getfield 7, 3) := by decide +kernel
theorem dX7_goLoad_8 : decode cX7_goLoad 8 = .ok (.sipush 715, 3) := by decide +kernel
theorem dX7_goLoad_11 : decode cX7_goLoad 11 = .ok (.iload_n 2, 1) := by decide +kernel
theorem dX7_goLoad_12 : decode cX7_goLoad 12 = .ok (.iadd, 1) := by decide +kernel
theorem dX7_goLoad_13 : decode cX7_goLoad 13 = .ok (.iaload, 1) := by decide +kernel
theorem dX7_goLoad_14 : decode cX7_goLoad 14 = .ok (.iload_n 3, 1) := by decide +kernel
theorem dX7_goLoad_15 : decode cX7_goLoad 15 = .ok (.invokestatic 161, 3) := by decide +kernel
theorem dX7_goLoad_18 : decode cX7_goLoad 18 = .ok (.iaload, 1) := by decide +kernel
theorem dX7_goLoad_19 : decode cX7_goLoad 19 = .ok (.istore 4, 2) := by decide +kernel
theorem dX7_goLoad_21 : decode cX7_goLoad 21 = .ok (.aload_n 0, 1) := by decide +kernel
theorem dX7_goLoad_22 : decode cX7_goLoad 22 = .ok (.getfield 7, 3) := by decide +kernel
theorem dX7_goLoad_25 : decode cX7_goLoad 25 = .ok (.sipush 715, 3) := by decide +kernel
theorem dX7_goLoad_28 : decode cX7_goLoad 28 = .ok (.iload_n 1, 1) := by decide +kernel
theorem dX7_goLoad_29 : decode cX7_goLoad 29 = .ok (.iadd, 1) := by decide +kernel
theorem dX7_goLoad_30 : decode cX7_goLoad 30 = .ok (.iload 4, 2) := by decide +kernel
theorem dX7_goLoad_32 : decode cX7_goLoad 32 = .ok (.iastore, 1) := by decide +kernel
theorem dX7_goLoad_33 : decode cX7_goLoad 33 = .ok (.aload_n 0, 1) := by decide +kernel
theorem dX7_goLoad_34 : decode cX7_goLoad 34 = .ok (.iload 4, 2) := by decide +kernel
theorem dX7_goLoad_36 : decode cX7_goLoad 36 = .ok (.aload_n 0, 1) := by decide +kernel
theorem dX7_goLoad_37 : decode cX7_goLoad 37 = .ok (.invokevirtual 181, 3) := by decide +kernel
theorem dX7_goLoad_40 : decode cX7_goLoad 40 = .ok (.ifCond .eq 18, 3) := by decide +kernel
theorem dX7_goLoad_43 : decode cX7_goLoad 43 = .ok (.aload_n 0, 1) := by decide +kernel
theorem dX7_goLoad_44 : decode cX7_goLoad 44 = .ok (.getfield 7, 3) := by decide +kernel
theorem dX7_goLoad_47 : decode cX7_goLoad 47 = .ok (.sipush 735, 3) := by decide +kernel
theorem dX7_goLoad_50 : decode cX7_goLoad 50 = .ok (.iaload, 1) := by decide +kernel
theorem dX7_goLoad_51 : decode cX7_goLoad 51 = .ok (.ifCond .ne 7, 3) := by decide +kernel
theorem dX7_goLoad_54 : decode cX7_goLoad 54 = .ok (.iconst 1, 1) := by decide +kernel
theorem dX7_goLoad_55 : decode cX7_goLoad 55 = .ok (.goto 4, 3) := by decide +kernel
theorem dX7_goLoad_58 : decode cX7_goLoad 58 = .ok (.iconst 0, 1) := by decide +kernel
theorem dX7_goLoad_59 : decode cX7_goLoad 59 = .ok (.invokevirtual 142, 3) := by decide +kernel
theorem dX7_goLoad_62 : decode cX7_goLoad 62 = .ok (.iload 4, 2) := by decide +kernel
theorem dX7_goLoad_64 : decode cX7_goLoad 64 = .ok (.ireturn, 1) := by decide +kernel
theorem dX7_load_0 : decode cX7_load 0 = .ok (.aload_n 0, 1) := by decide +kernel
theorem dX7_load_1 : decode cX7_load 1 = .ok (.iload_n 1, 1) := by decide +kernel
theorem dX7_load_2 : decode cX7_load 2 = .ok (.iload_n 2, 1) := by decide +kernel
theorem dX7_load_3 : decode cX7_load 3 = .ok (.iload_n 3, 1) := by decide +kernel
theorem dX7_load_4 : decode cX7_load 4 = .ok (.invokevirtual 228, 3) := by decide +kernel
theorem dX7_load_7 : decode cX7_load 7 = .ok (.ifCond .ne 6, 3) := by decide +kernel
theorem dX7_load_10 : decode cX7_load 10 = .ok (.bipush (-2), 2) := by decide +kernel
theorem dX7_load_12 : decode cX7_load 12 = .ok (.ireturn, 1) := by decide +kernel
theorem dX7_load_13 : decode cX7_load 13 = .ok (.aload_n 0, 1) := by decide +kernel
theorem dX7_load_14 : decode cX7_load 14 = .ok (.invokevirtual 219, 3) := by decide +kernel
theorem dX7_load_17 : decode cX7_load 17 = .ok (.aload_n 0, 1) := by decide +kernel
theorem dX7_load_18 : decode cX7_load 18 = .ok (.iload_n 1, 1) := by decide +kernel
theorem dX7_load_19 : decode cX7_load 19 = .ok (.iload_n 2, 1) := by decide +kernel
theorem dX7_load_20 : decode cX7_load 20 = .ok (.iload_n 3, 1) := by decide +kernel
theorem dX7_load_21 : decode cX7_load 21 = .ok (.invokevirtual 231, 3) := by decide +kernel
theorem dX7_load_24 : decode cX7_load 24 = .ok (.ireturn, 1) := by decide +kernel
theorem dX7_named_0 : decode cX7_named 0 = .ok (.iload_n 1, 1) := by decide +kernel
theorem dX7_named_1 : decode cX7_named 1 = .ok (.ifCond .ge 7, 3) := by decide +kernel
theorem dX7_named_4 : decode cX7_named 4 = .ok (.iconst (-1), 1) := by decide +kernel
theorem dX7_named_5 : decode cX7_named 5 = .ok (.goto 13, 3) := by decide +kernel
theorem dX7_named_8 : decode cX7_named 8 = .ok (.aload_n 0, 1) := by decide +kernel
theorem dX7_named_9 : decode cX7_named 9 = .ok (.getfield 7, 3) := by decide +kernel
theorem dX7_named_12 : decode cX7_named 12 = .ok (.sipush 715, 3) := by decide +kernel
theorem dX7_named_15 : decode cX7_named 15 = .ok (.iload_n 1, 1) := by decide +kernel
theorem dX7_named_16 : decode cX7_named 16 = .ok (.iadd, 1) := by decide +kernel
theorem dX7_named_17 : decode cX7_named 17 = .ok (.iaload, 1) := by decide +kernel
theorem dX7_named_18 : decode cX7_named 18 = .ok (.ireturn, 1) := by decide +kernel
theorem dX7_isRootOrNone_0 : decode cX7_isRootOrNone 0 = .ok (.iload_n 0, 1) := by decide +kernel
theorem dX7_isRootOrNone_1 : decode cX7_isRootOrNone 1 = .ok (.iconst (-1), 1) := by decide +kernel
theorem dX7_isRootOrNone_2 : decode cX7_isRootOrNone 2 = .ok (.if_icmp .eq 10, 3) := by decide +kernel
theorem dX7_isRootOrNone_5 : decode cX7_isRootOrNone 5 = .ok (.iload_n 0, 1) := by decide +kernel
theorem dX7_isRootOrNone_6 : decode cX7_isRootOrNone 6 = .ok (.invokestatic 216, 3) := by decide +kernel
theorem dX7_isRootOrNone_9 : decode cX7_isRootOrNone 9 = .ok (.ifCond .eq 7, 3) := by decide +kernel
theorem dX7_isRootOrNone_12 : decode cX7_isRootOrNone 12 = .ok (.iconst 1, 1) := by decide +kernel
theorem dX7_isRootOrNone_13 : decode cX7_isRootOrNone 13 = .ok (.goto 4, 3) := by decide +kernel
theorem dX7_isRootOrNone_16 : decode cX7_isRootOrNone 16 = .ok (.iconst 0, 1) := by decide +kernel
theorem dX7_isRootOrNone_17 : decode cX7_isRootOrNone 17 = .ok (.ireturn, 1) := by decide +kernel
theorem dX7_canStore_0 : decode cX7_canStore 0 = .ok (.iload_n 1, 1) := by decide +kernel
theorem dX7_canStore_1 : decode cX7_canStore 1 = .ok (.invokestatic 216, 3) := by decide +kernel
theorem dX7_canStore_4 : decode cX7_canStore 4 = .ok (.ifCond .eq 45, 3) := by decide +kernel
theorem dX7_canStore_7 : decode cX7_canStore 7 = .ok (.iload_n 3, 1) := by decide +kernel
theorem dX7_canStore_8 : decode cX7_canStore 8 = .ok (.invokestatic 235, 3) := by decide +kernel
theorem dX7_canStore_11 : decode cX7_canStore 11 = .ok (.ifCond .eq 38, 3) := by decide +kernel
theorem dX7_canStore_14 : decode cX7_canStore 14 = .ok (.aload_n 0, 1) := by decide +kernel
theorem dX7_canStore_15 : decode cX7_canStore 15 = .ok (.getfield 7, 3) := by decide +kernel
theorem dX7_canStore_18 : decode cX7_canStore 18 = .ok (.sipush 715, 3) := by decide +kernel
theorem dX7_canStore_21 : decode cX7_canStore 21 = .ok (.iload_n 1, 1) := by decide +kernel
theorem dX7_canStore_22 : decode cX7_canStore 22 = .ok (.iadd, 1) := by decide +kernel
theorem dX7_canStore_23 : decode cX7_canStore 23 = .ok (.iaload, 1) := by decide +kernel
theorem dX7_canStore_24 : decode cX7_canStore 24 = .ok (.ifCond .lt 25, 3) := by decide +kernel
theorem dX7_canStore_27 : decode cX7_canStore 27 = .ok (.aload_n 0, 1) := by decide +kernel
theorem dX7_canStore_28 : decode cX7_canStore 28 = .ok (.aload_n 0, 1) := by decide +kernel
theorem dX7_canStore_29 : decode cX7_canStore 29 = .ok (.getfield 7, 3) := by decide +kernel
theorem dX7_canStore_32 : decode cX7_canStore 32 = .ok (.sipush 715, 3) := by decide +kernel
theorem dX7_canStore_35 : decode cX7_canStore 35 = .ok (.iload_n 1, 1) := by decide +kernel
theorem dX7_canStore_36 : decode cX7_canStore 36 = .ok (.iadd, 1) := by decide +kernel
theorem dX7_canStore_37 : decode cX7_canStore 37 = .ok (.iaload, 1) := by decide +kernel
theorem dX7_canStore_38 : decode cX7_canStore 38 = .ok (.iload_n 2, 1) := by decide +kernel
theorem dX7_canStore_39 : decode cX7_canStore 39 = .ok (.invokevirtual 225, 3) := by decide +kernel
theorem dX7_canStore_42 : decode cX7_canStore 42 = .ok (.ifCond .eq 7, 3) := by decide +kernel
theorem dX7_canStore_45 : decode cX7_canStore 45 = .ok (.iconst 1, 1) := by decide +kernel
theorem dX7_canStore_46 : decode cX7_canStore 46 = .ok (.goto 4, 3) := by decide +kernel
theorem dX7_canStore_49 : decode cX7_canStore 49 = .ok (.iconst 0, 1) := by decide +kernel
theorem dX7_canStore_50 : decode cX7_canStore 50 = .ok (.ireturn, 1) := by decide +kernel
theorem dX7_goStore_0 : decode cX7_goStore 0 = .ok (.aload_n 0, 1) := by decide +kernel
theorem dX7_goStore_1 : decode cX7_goStore 1 = .ok (.getfield 7, 3) := by decide +kernel
theorem dX7_goStore_4 : decode cX7_goStore 4 = .ok (.sipush 715, 3) := by decide +kernel
theorem dX7_goStore_7 : decode cX7_goStore 7 = .ok (.iload_n 1, 1) := by decide +kernel
theorem dX7_goStore_8 : decode cX7_goStore 8 = .ok (.iadd, 1) := by decide +kernel
theorem dX7_goStore_9 : decode cX7_goStore 9 = .ok (.iaload, 1) := by decide +kernel
theorem dX7_goStore_10 : decode cX7_goStore 10 = .ok (.iload_n 2, 1) := by decide +kernel
theorem dX7_goStore_11 : decode cX7_goStore 11 = .ok (.invokestatic 161, 3) := by decide +kernel
theorem dX7_goStore_14 : decode cX7_goStore 14 = .ok (.istore 4, 2) := by decide +kernel
theorem dX7_goStore_16 : decode cX7_goStore 16 = .ok (.aload_n 0, 1) := by decide +kernel
theorem dX7_goStore_17 : decode cX7_goStore 17 = .ok (.iload_n 3, 1) := by decide +kernel
theorem dX7_goStore_18 : decode cX7_goStore 18 = .ok (.invokevirtual 238, 3) := by decide +kernel
theorem dX7_goStore_21 : decode cX7_goStore 21 = .ok (.istore 5, 2) := by decide +kernel
theorem dX7_goStore_23 : decode cX7_goStore 23 = .ok (.aload_n 0, 1) := by decide +kernel
theorem dX7_goStore_24 : decode cX7_goStore 24 = .ok (.aload_n 0, 1) := by decide +kernel
theorem dX7_goStore_25 : decode cX7_goStore 25 = .ok (.getfield 7, 3) := by decide +kernel
theorem dX7_goStore_28 : decode cX7_goStore 28 = .ok (.iload 4, 2) := by decide +kernel
theorem dX7_goStore_30 : decode cX7_goStore 30 = .ok (.iaload, 1) := by decide +kernel
theorem dX7_goStore_31 : decode cX7_goStore 31 = .ok (.aload_n 0, 1) := by decide +kernel
theorem dX7_goStore_32 : decode cX7_goStore 32 = .ok (.invokevirtual 181, 3) := by decide +kernel
theorem dX7_goStore_35 : decode cX7_goStore 35 = .ok (.ifCond .eq 19, 3) := by decide +kernel
theorem dX7_goStore_38 : decode cX7_goStore 38 = .ok (.aload_n 0, 1) := by decide +kernel
theorem dX7_goStore_39 : decode cX7_goStore 39 = .ok (.getfield 7, 3) := by decide +kernel
theorem dX7_goStore_42 : decode cX7_goStore 42 = .ok (.sipush 735, 3) := by decide +kernel
theorem dX7_goStore_45 : decode cX7_goStore 45 = .ok (.iaload, 1) := by decide +kernel
theorem dX7_goStore_46 : decode cX7_goStore 46 = .ok (.iconst 2, 1) := by decide +kernel
theorem dX7_goStore_47 : decode cX7_goStore 47 = .ok (.if_icmp .ne 7, 3) := by decide +kernel
theorem dX7_goStore_50 : decode cX7_goStore 50 = .ok (.iconst 1, 1) := by decide +kernel
theorem dX7_goStore_51 : decode cX7_goStore 51 = .ok (.goto 4, 3) := by decide +kernel
theorem dX7_goStore_54 : decode cX7_goStore 54 = .ok (.iconst 0, 1) := by decide +kernel
theorem dX7_goStore_55 : decode cX7_goStore 55 = .ok (.invokevirtual 142, 3) := by decide +kernel
theorem dX7_goStore_58 : decode cX7_goStore 58 = .ok (.aload_n 0, 1) := by decide +kernel
theorem dX7_goStore_59 : decode cX7_goStore 59 = .ok (.getfield 7, 3) := by decide +kernel
theorem dX7_goStore_62 : decode cX7_goStore 62 = .ok (.iload 4, 2) := by decide +kernel
theorem dX7_goStore_64 : decode cX7_goStore 64 = .ok (.iload 5, 2) := by decide +kernel
theorem dX7_goStore_66 : decode cX7_goStore 66 = .ok (.iastore, 1) := by decide +kernel
theorem dX7_goStore_67 : decode cX7_goStore 67 = .ok (.aload_n 0, 1) := by decide +kernel
theorem dX7_goStore_68 : decode cX7_goStore 68 = .ok (.iload 5, 2) := by decide +kernel
theorem dX7_goStore_70 : decode cX7_goStore 70 = .ok (.aload_n 0, 1) := by decide +kernel
theorem dX7_goStore_71 : decode cX7_goStore 71 = .ok (.invokevirtual 181, 3) := by decide +kernel
theorem dX7_goStore_74 : decode cX7_goStore 74 = .ok (.ifCond .eq 19, 3) := by decide +kernel
theorem dX7_goStore_77 : decode cX7_goStore 77 = .ok (.aload_n 0, 1) := by decide +kernel
theorem dX7_goStore_78 : decode cX7_goStore 78 = .ok (.getfield 7, 3) := by decide +kernel
theorem dX7_goStore_81 : decode cX7_goStore 81 = .ok (.sipush 735, 3) := by decide +kernel
theorem dX7_goStore_84 : decode cX7_goStore 84 = .ok (.iaload, 1) := by decide +kernel
theorem dX7_goStore_85 : decode cX7_goStore 85 = .ok (.iconst 1, 1) := by decide +kernel
theorem dX7_goStore_86 : decode cX7_goStore 86 = .ok (.if_icmp .ne 7, 3) := by decide +kernel
theorem dX7_goStore_89 : decode cX7_goStore 89 = .ok (.iconst 1, 1) := by decide +kernel
theorem dX7_goStore_90 : decode cX7_goStore 90 = .ok (.goto 4, 3) := by decide +kernel
theorem dX7_goStore_93 : decode cX7_goStore 93 = .ok (.iconst 0, 1) := by decide +kernel
theorem dX7_goStore_94 : decode cX7_goStore 94 = .ok (.invokevirtual 142, 3) := by decide +kernel
theorem dX7_goStore_97 : decode cX7_goStore 97 = .ok (.return_, 1) := by decide +kernel
theorem dX7_store_0 : decode cX7_store 0 = .ok (.aload_n 0, 1) := by decide +kernel
theorem dX7_store_1 : decode cX7_store 1 = .ok (.iload_n 1, 1) := by decide +kernel
theorem dX7_store_2 : decode cX7_store 2 = .ok (.iload_n 2, 1) := by decide +kernel
theorem dX7_store_3 : decode cX7_store 3 = .ok (.iload_n 3, 1) := by decide +kernel
theorem dX7_store_4 : decode cX7_store 4 = .ok (.invokevirtual 241, 3) := by decide +kernel
theorem dX7_store_7 : decode cX7_store 7 = .ok (.ifCond .ne 5, 3) := by decide +kernel
theorem dX7_store_10 : decode cX7_store 10 = .ok (.iconst 0, 1) := by decide +kernel
theorem dX7_store_11 : decode cX7_store 11 = .ok (.ireturn, 1) := by decide +kernel
theorem dX7_store_12 : decode cX7_store 12 = .ok (.aload_n 0, 1) := by decide +kernel
theorem dX7_store_13 : decode cX7_store 13 = .ok (.invokevirtual 219, 3) := by decide +kernel
theorem dX7_store_16 : decode cX7_store 16 = .ok (.aload_n 0, 1) := by decide +kernel
theorem dX7_store_17 : decode cX7_store 17 = .ok (.iload_n 1, 1) := by decide +kernel
theorem dX7_store_18 : decode cX7_store 18 = .ok (.iload_n 2, 1) := by decide +kernel
theorem dX7_store_19 : decode cX7_store 19 = .ok (.iload_n 3, 1) := by decide +kernel
theorem dX7_store_20 : decode cX7_store 20 = .ok (.invokevirtual 244, 3) := by decide +kernel
theorem dX7_store_23 : decode cX7_store 23 = .ok (.iconst 1, 1) := by decide +kernel
theorem dX7_store_24 : decode cX7_store 24 = .ok (.ireturn, 1) := by decide +kernel
theorem dX7_copy_0 : decode cX7_copy 0 = .ok (.iload_n 1, 1) := by decide +kernel
theorem dX7_copy_1 : decode cX7_copy 1 = .ok (.invokestatic 216, 3) := by decide +kernel
theorem dX7_copy_4 : decode cX7_copy 4 = .ok (.ifCond .eq 10, 3) := by decide +kernel
theorem dX7_copy_7 : decode cX7_copy 7 = .ok (.iload_n 2, 1) := by decide +kernel
theorem dX7_copy_8 : decode cX7_copy 8 = .ok (.invokestatic 235, 3) := by decide +kernel
theorem dX7_copy_11 : decode cX7_copy 11 = .ok (.ifCond .ne 5, 3) := by decide +kernel
theorem dX7_copy_14 : decode cX7_copy 14 = .ok (.iconst 0, 1) := by decide +kernel
theorem dX7_copy_15 : decode cX7_copy 15 = .ok (.ireturn, 1) := by decide +kernel
theorem dX7_copy_16 : decode cX7_copy 16 = .ok (.aload_n 0, 1) := by decide +kernel
theorem dX7_copy_17 : decode cX7_copy 17 = .ok (.invokevirtual 219, 3) := by decide +kernel
theorem dX7_copy_20 : decode cX7_copy 20 = .ok (.aload_n 0, 1) := by decide +kernel
theorem dX7_copy_21 : decode cX7_copy 21 = .ok (.getfield 7, 3) := by decide +kernel
theorem dX7_copy_24 : decode cX7_copy 24 = .ok (.sipush 715, 3) := by decide +kernel
theorem dX7_copy_27 : decode cX7_copy 27 = .ok (.iload_n 1, 1) := by decide +kernel
theorem dX7_copy_28 : decode cX7_copy 28 = .ok (.iadd, 1) := by decide +kernel
theorem dX7_copy_29 : decode cX7_copy 29 = .ok (.aload_n 0, 1) := by decide +kernel
theorem dX7_copy_30 : decode cX7_copy 30 = .ok (.iload_n 2, 1) := by decide +kernel
theorem dX7_copy_31 : decode cX7_copy 31 = .ok (.invokevirtual 238, 3) := by decide +kernel
theorem dX7_copy_34 : decode cX7_copy 34 = .ok (.iastore, 1) := by decide +kernel
theorem dX7_copy_35 : decode cX7_copy 35 = .ok (.iconst 1, 1) := by decide +kernel
theorem dX7_copy_36 : decode cX7_copy 36 = .ok (.ireturn, 1) := by decide +kernel
theorem dX7_weak_0 : decode cX7_weak 0 = .ok (.iload_n 1, 1) := by decide +kernel
theorem dX7_weak_1 : decode cX7_weak 1 = .ok (.invokestatic 247, 3) := by decide +kernel
theorem dX7_weak_4 : decode cX7_weak 4 = .ok (.ifCond .eq 10, 3) := by decide +kernel
theorem dX7_weak_7 : decode cX7_weak 7 = .ok (.iload_n 2, 1) := by decide +kernel
theorem dX7_weak_8 : decode cX7_weak 8 = .ok (.invokestatic 235, 3) := by decide +kernel
theorem dX7_weak_11 : decode cX7_weak 11 = .ok (.ifCond .ne 5, 3) := by decide +kernel
theorem dX7_weak_14 : decode cX7_weak 14 = .ok (.iconst 0, 1) := by decide +kernel
theorem dX7_weak_15 : decode cX7_weak 15 = .ok (.ireturn, 1) := by decide +kernel
theorem dX7_weak_16 : decode cX7_weak 16 = .ok (.aload_n 0, 1) := by decide +kernel
theorem dX7_weak_17 : decode cX7_weak 17 = .ok (.invokevirtual 219, 3) := by decide +kernel
theorem dX7_weak_20 : decode cX7_weak 20 = .ok (.aload_n 0, 1) := by decide +kernel
theorem dX7_weak_21 : decode cX7_weak 21 = .ok (.getfield 7, 3) := by decide +kernel
theorem dX7_weak_24 : decode cX7_weak 24 = .ok (.sipush 721, 3) := by decide +kernel
theorem dX7_weak_27 : decode cX7_weak 27 = .ok (.iload_n 1, 1) := by decide +kernel
theorem dX7_weak_28 : decode cX7_weak 28 = .ok (.iadd, 1) := by decide +kernel
theorem dX7_weak_29 : decode cX7_weak 29 = .ok (.aload_n 0, 1) := by decide +kernel
theorem dX7_weak_30 : decode cX7_weak 30 = .ok (.iload_n 2, 1) := by decide +kernel
theorem dX7_weak_31 : decode cX7_weak 31 = .ok (.invokevirtual 238, 3) := by decide +kernel
theorem dX7_weak_34 : decode cX7_weak 34 = .ok (.iastore, 1) := by decide +kernel
theorem dX7_weak_35 : decode cX7_weak 35 = .ok (.iconst 1, 1) := by decide +kernel
theorem dX7_weak_36 : decode cX7_weak 36 = .ok (.ireturn, 1) := by decide +kernel
theorem dX7_strong_0 : decode cX7_strong 0 = .ok (.iload_n 1, 1) := by decide +kernel
theorem dX7_strong_1 : decode cX7_strong 1 = .ok (.invokestatic 216, 3) := by decide +kernel
theorem dX7_strong_4 : decode cX7_strong 4 = .ok (.ifCond .eq 10, 3) := by decide +kernel
theorem dX7_strong_7 : decode cX7_strong 7 = .ok (.iload_n 2, 1) := by decide +kernel
theorem dX7_strong_8 : decode cX7_strong 8 = .ok (.invokestatic 247, 3) := by decide +kernel
theorem dX7_strong_11 : decode cX7_strong 11 = .ok (.ifCond .ne 6, 3) := by decide +kernel
theorem dX7_strong_14 : decode cX7_strong 14 = .ok (.bipush (-2), 2) := by decide +kernel
theorem dX7_strong_16 : decode cX7_strong 16 = .ok (.ireturn, 1) := by decide +kernel
theorem dX7_strong_17 : decode cX7_strong 17 = .ok (.aload_n 0, 1) := by decide +kernel
theorem dX7_strong_18 : decode cX7_strong 18 = .ok (.invokevirtual 219, 3) := by decide +kernel
theorem dX7_strong_21 : decode cX7_strong 21 = .ok (.aload_n 0, 1) := by decide +kernel
theorem dX7_strong_22 : decode cX7_strong 22 = .ok (.getfield 7, 3) := by decide +kernel
theorem dX7_strong_25 : decode cX7_strong 25 = .ok (.sipush 721, 3) := by decide +kernel
theorem dX7_strong_28 : decode cX7_strong 28 = .ok (.iload_n 2, 1) := by decide +kernel
theorem dX7_strong_29 : decode cX7_strong 29 = .ok (.iadd, 1) := by decide +kernel
theorem dX7_strong_30 : decode cX7_strong 30 = .ok (.iaload, 1) := by decide +kernel
theorem dX7_strong_31 : decode cX7_strong 31 = .ok (.istore_n 3, 1) := by decide +kernel
theorem dX7_strong_32 : decode cX7_strong 32 = .ok (.aload_n 0, 1) := by decide +kernel
theorem dX7_strong_33 : decode cX7_strong 33 = .ok (.getfield 7, 3) := by decide +kernel
theorem dX7_strong_36 : decode cX7_strong 36 = .ok (.sipush 715, 3) := by decide +kernel
theorem dX7_strong_39 : decode cX7_strong 39 = .ok (.iload_n 1, 1) := by decide +kernel
theorem dX7_strong_40 : decode cX7_strong 40 = .ok (.iadd, 1) := by decide +kernel
theorem dX7_strong_41 : decode cX7_strong 41 = .ok (.iload_n 3, 1) := by decide +kernel
theorem dX7_strong_42 : decode cX7_strong 42 = .ok (.iastore, 1) := by decide +kernel
theorem dX7_strong_43 : decode cX7_strong 43 = .ok (.aload_n 0, 1) := by decide +kernel
theorem dX7_strong_44 : decode cX7_strong 44 = .ok (.iload_n 3, 1) := by decide +kernel
theorem dX7_strong_45 : decode cX7_strong 45 = .ok (.aload_n 0, 1) := by decide +kernel
theorem dX7_strong_46 : decode cX7_strong 46 = .ok (.invokevirtual 181, 3) := by decide +kernel
theorem dX7_strong_49 : decode cX7_strong 49 = .ok (.ifCond .eq 19, 3) := by decide +kernel
theorem dX7_strong_52 : decode cX7_strong 52 = .ok (.aload_n 0, 1) := by decide +kernel
theorem dX7_strong_53 : decode cX7_strong 53 = .ok (.getfield 7, 3) := by decide +kernel
theorem dX7_strong_56 : decode cX7_strong 56 = .ok (.sipush 735, 3) := by decide +kernel
theorem dX7_strong_59 : decode cX7_strong 59 = .ok (.iaload, 1) := by decide +kernel
theorem dX7_strong_60 : decode cX7_strong 60 = .ok (.iconst 2, 1) := by decide +kernel
theorem dX7_strong_61 : decode cX7_strong 61 = .ok (.if_icmp .gt 7, 3) := by decide +kernel
theorem dX7_strong_64 : decode cX7_strong 64 = .ok (.iconst 1, 1) := by decide +kernel
theorem dX7_strong_65 : decode cX7_strong 65 = .ok (.goto 4, 3) := by decide +kernel
theorem dX7_strong_68 : decode cX7_strong 68 = .ok (.iconst 0, 1) := by decide +kernel
theorem dX7_strong_69 : decode cX7_strong 69 = .ok (.invokevirtual 142, 3) := by decide +kernel
theorem dX7_strong_72 : decode cX7_strong 72 = .ok (.iload_n 3, 1) := by decide +kernel
theorem dX7_strong_73 : decode cX7_strong 73 = .ok (.ireturn, 1) := by decide +kernel
theorem dX7_start_0 : decode cX7_start 0 = .ok (.aload_n 0, 1) := by decide +kernel
theorem dX7_start_1 : decode cX7_start 1 = .ok (.invokevirtual 181, 3) := by decide +kernel
theorem dX7_start_4 : decode cX7_start 4 = .ok (.ifCond .eq 5, 3) := by decide +kernel
theorem dX7_start_7 : decode cX7_start 7 = .ok (.iconst 0, 1) := by decide +kernel
theorem dX7_start_8 : decode cX7_start 8 = .ok (.ireturn, 1) := by decide +kernel
theorem dX7_start_9 : decode cX7_start 9 = .ok (.aload_n 0, 1) := by decide +kernel
theorem dX7_start_10 : decode cX7_start 10 = .ok (.invokevirtual 219, 3) := by decide +kernel
theorem dX7_start_13 : decode cX7_start 13 = .ok (.aload_n 0, 1) := by decide +kernel
theorem dX7_start_14 : decode cX7_start 14 = .ok (.invokevirtual 207, 3) := by decide +kernel
theorem dX7_start_17 : decode cX7_start 17 = .ok (.iconst 1, 1) := by decide +kernel
theorem dX7_start_18 : decode cX7_start 18 = .ok (.ireturn, 1) := by decide +kernel
theorem dX7_work_0 : decode cX7_work 0 = .ok (.aload_n 0, 1) := by decide +kernel
theorem dX7_work_1 : decode cX7_work 1 = .ok (.invokevirtual 181, 3) := by decide +kernel
theorem dX7_work_4 : decode cX7_work 4 = .ok (.ifCond .eq 14, 3) := by decide +kernel
theorem dX7_work_7 : decode cX7_work 7 = .ok (.iload_n 1, 1) := by decide +kernel
theorem dX7_work_8 : decode cX7_work 8 = .ok (.iconst 1, 1) := by decide +kernel
theorem dX7_work_9 : decode cX7_work 9 = .ok (.sipush 500, 3) := by decide +kernel
theorem dX7_work_12 : decode cX7_work 12 = .ok (.invokestatic 94, 3) := by decide +kernel
theorem dX7_work_15 : decode cX7_work 15 = .ok (.ifCond .ne 5, 3) := by decide +kernel
theorem dX7_work_18 : decode cX7_work 18 = .ok (.iconst (-1), 1) := by decide +kernel
theorem dX7_work_19 : decode cX7_work 19 = .ok (.ireturn, 1) := by decide +kernel
theorem dX7_work_20 : decode cX7_work 20 = .ok (.aload_n 0, 1) := by decide +kernel
theorem dX7_work_21 : decode cX7_work 21 = .ok (.invokevirtual 219, 3) := by decide +kernel
theorem dX7_work_24 : decode cX7_work 24 = .ok (.aload_n 0, 1) := by decide +kernel
theorem dX7_work_25 : decode cX7_work 25 = .ok (.iload_n 1, 1) := by decide +kernel
theorem dX7_work_26 : decode cX7_work 26 = .ok (.invokevirtual 189, 3) := by decide +kernel
theorem dX7_work_29 : decode cX7_work 29 = .ok (.ireturn, 1) := by decide +kernel
theorem dX7_turn_0 : decode cX7_turn 0 = .ok (.iload_n 1, 1) := by decide +kernel
theorem dX7_turn_1 : decode cX7_turn 1 = .ok (.iconst 0, 1) := by decide +kernel
theorem dX7_turn_2 : decode cX7_turn 2 = .ok (.iconst 3, 1) := by decide +kernel
theorem dX7_turn_3 : decode cX7_turn 3 = .ok (.invokestatic 94, 3) := by decide +kernel
theorem dX7_turn_6 : decode cX7_turn 6 = .ok (.ifCond .eq 33, 3) := by decide +kernel
theorem dX7_turn_9 : decode cX7_turn 9 = .ok (.iload_n 2, 1) := by decide +kernel
theorem dX7_turn_10 : decode cX7_turn 10 = .ok (.iconst 0, 1) := by decide +kernel
theorem dX7_turn_11 : decode cX7_turn 11 = .ok (.iload_n 1, 1) := by decide +kernel
theorem dX7_turn_12 : decode cX7_turn 12 = .ok (.iconst 2, 1) := by decide +kernel
theorem dX7_turn_13 : decode cX7_turn 13 = .ok (.if_icmp .ge 7, 3) := by decide +kernel
theorem dX7_turn_16 : decode cX7_turn 16 = .ok (.iconst 3, 1) := by decide +kernel
theorem dX7_turn_17 : decode cX7_turn 17 = .ok (.goto 5, 3) := by decide +kernel
theorem dX7_turn_20 : decode cX7_turn 20 = .ok (.bipush 16, 2) := by decide +kernel
theorem dX7_turn_22 : decode cX7_turn 22 = .ok (.invokestatic 94, 3) := by decide +kernel
theorem dX7_turn_25 : decode cX7_turn 25 = .ok (.ifCond .eq 14, 3) := by decide +kernel
theorem dX7_turn_28 : decode cX7_turn 28 = .ok (.iload_n 1, 1) := by decide +kernel
theorem dX7_turn_29 : decode cX7_turn 29 = .ok (.ifCond .ne 12, 3) := by decide +kernel
theorem dX7_turn_32 : decode cX7_turn 32 = .ok (.aload_n 0, 1) := by decide +kernel
theorem dX7_turn_33 : decode cX7_turn 33 = .ok (.invokevirtual 181, 3) := by decide +kernel
theorem dX7_turn_36 : decode cX7_turn 36 = .ok (.ifCond .eq 5, 3) := by decide +kernel
theorem dX7_turn_39 : decode cX7_turn 39 = .ok (.iconst (-1), 1) := by decide +kernel
theorem dX7_turn_40 : decode cX7_turn 40 = .ok (.ireturn, 1) := by decide +kernel
theorem dX7_turn_41 : decode cX7_turn 41 = .ok (.aload_n 0, 1) := by decide +kernel
theorem dX7_turn_42 : decode cX7_turn 42 = .ok (.invokevirtual 219, 3) := by decide +kernel
theorem dX7_turn_45 : decode cX7_turn 45 = .ok (.aload_n 0, 1) := by decide +kernel
theorem dX7_turn_46 : decode cX7_turn 46 = .ok (.getfield 7, 3) := by decide +kernel
theorem dX7_turn_49 : decode cX7_turn 49 = .ok (.sipush 735, 3) := by decide +kernel
theorem dX7_turn_52 : decode cX7_turn 52 = .ok (.iload_n 1, 1) := by decide +kernel
theorem dX7_turn_53 : decode cX7_turn 53 = .ok (.iadd, 1) := by decide +kernel
theorem dX7_turn_54 : decode cX7_turn 54 = .ok (.iaload, 1) := by decide +kernel
theorem dX7_turn_55 : decode cX7_turn 55 = .ok (.istore_n 3, 1) := by decide +kernel
theorem dX7_turn_56 : decode cX7_turn 56 = .ok (.aload_n 0, 1) := by decide +kernel
theorem dX7_turn_57 : decode cX7_turn 57 = .ok (.getfield 7, 3) := by decide +kernel
theorem dX7_turn_60 : decode cX7_turn 60 = .ok (.sipush 735, 3) := by decide +kernel
theorem dX7_turn_63 : decode cX7_turn 63 = .ok (.iload_n 1, 1) := by decide +kernel
theorem dX7_turn_64 : decode cX7_turn 64 = .ok (.iadd, 1) := by decide +kernel
theorem dX7_turn_65 : decode cX7_turn 65 = .ok (.iload_n 2, 1) := by decide +kernel
theorem dX7_turn_66 : decode cX7_turn 66 = .ok (.iastore, 1) := by decide +kernel
theorem dX7_turn_67 : decode cX7_turn 67 = .ok (.iload_n 3, 1) := by decide +kernel
theorem dX7_turn_68 : decode cX7_turn 68 = .ok (.ireturn, 1) := by decide +kernel
theorem dX7_open_0 : decode cX7_open 0 = .ok (.iload_n 1, 1) := by decide +kernel
theorem dX7_open_1 : decode cX7_open 1 = .ok (.iconst 1, 1) := by decide +kernel
theorem dX7_open_2 : decode cX7_open 2 = .ok (.bipush 8, 2) := by decide +kernel
theorem dX7_open_4 : decode cX7_open 4 = .ok (.invokestatic 94, 3) := by decide +kernel
theorem dX7_open_7 : decode cX7_open 7 = .ok (.ifCond .ne 5, 3) := by decide +kernel
theorem dX7_open_10 : decode cX7_open 10 = .ok (.iconst 0, 1) := by decide +kernel
theorem dX7_open_11 : decode cX7_open 11 = .ok (.ireturn, 1) := by decide +kernel
theorem dX7_open_12 : decode cX7_open 12 = .ok (.aload_n 0, 1) := by decide +kernel
theorem dX7_open_13 : decode cX7_open 13 = .ok (.iload_n 1, 1) := by decide +kernel
theorem dX7_open_14 : decode cX7_open 14 = .ok (.invokevirtual 90, 3) := by decide +kernel
theorem dX7_open_17 : decode cX7_open 17 = .ok (.aload_n 0, 1) := by decide +kernel
theorem dX7_open_18 : decode cX7_open 18 = .ok (.iconst 0, 1) := by decide +kernel
theorem dX7_open_19 : decode cX7_open 19 = .ok (.putfield 250, 3) := by decide +kernel
theorem dX7_open_22 : decode cX7_open 22 = .ok (.aload_n 0, 1) := by decide +kernel
theorem dX7_open_23 : decode cX7_open 23 = .ok (.iconst 0, 1) := by decide +kernel
theorem dX7_open_24 : decode cX7_open 24 = .ok (.putfield 253, 3) := by decide +kernel
theorem dX7_open_27 : decode cX7_open 27 = .ok (.iconst 1, 1) := by decide +kernel
theorem dX7_open_28 : decode cX7_open 28 = .ok (.ireturn, 1) := by decide +kernel
theorem dX7_meet_0 : decode cX7_meet 0 = .ok (.iload_n 1, 1) := by decide +kernel
theorem dX7_meet_1 : decode cX7_meet 1 = .ok (.ifCond .lt 17, 3) := by decide +kernel
theorem dX7_meet_4 : decode cX7_meet 4 = .ok (.iload_n 1, 1) := by decide +kernel
theorem dX7_meet_5 : decode cX7_meet 5 = .ok (.iload_n 2, 1) := by decide +kernel
theorem dX7_meet_6 : decode cX7_meet 6 = .ok (.if_icmp .eq 12, 3) := by decide +kernel
theorem dX7_meet_9 : decode cX7_meet 9 = .ok (.aload_n 0, 1) := by decide +kernel
theorem dX7_meet_10 : decode cX7_meet 10 = .ok (.getfield 17, 3) := by decide +kernel
theorem dX7_meet_13 : decode cX7_meet 13 = .ok (.iload_n 1, 1) := by decide +kernel
theorem dX7_meet_14 : decode cX7_meet 14 = .ok (.baload, 1) := by decide +kernel
theorem dX7_meet_15 : decode cX7_meet 15 = .ok (.ifCond .eq 4, 3) := by decide +kernel
theorem dX7_meet_18 : decode cX7_meet 18 = .ok (.return_, 1) := by decide +kernel
theorem dX7_meet_19 : decode cX7_meet 19 = .ok (.aload_n 0, 1) := by decide +kernel
theorem dX7_meet_20 : decode cX7_meet 20 = .ok (.getfield 17, 3) := by decide +kernel
theorem dX7_meet_23 : decode cX7_meet 23 = .ok (.iload_n 1, 1) := by decide +kernel
theorem dX7_meet_24 : decode cX7_meet 24 = .ok (.iconst 1, 1) := by decide +kernel
theorem dX7_meet_25 : decode cX7_meet 25 = .ok (.bastore, 1) := by decide +kernel
theorem dX7_meet_26 : decode cX7_meet 26 = .ok (.aload_n 0, 1) := by decide +kernel
theorem dX7_meet_27 : decode cX7_meet 27 = .ok (.getfield 23, 3) := by decide +kernel
theorem dX7_meet_30 : decode cX7_meet 30 = .ok (.iload_n 1, 1) := by decide +kernel
theorem dX7_meet_31 : decode cX7_meet 31 = .ok (.iload_n 3, 1) := by decide +kernel
theorem dX7_meet_32 : decode cX7_meet 32 = .ok (.iastore, 1) := by decide +kernel
theorem dX7_meet_33 : decode cX7_meet 33 = .ok (.aload_n 0, 1) := by decide +kernel
theorem dX7_meet_34 : decode cX7_meet 34 = .ok (.getfield 20, 3) := by decide +kernel
theorem dX7_meet_37 : decode cX7_meet 37 = .ok (.aload_n 0, 1) := by decide +kernel
theorem dX7_meet_38 : decode cX7_meet 38 = .ok (.getfield 256, 3) := by decide +kernel
theorem dX7_meet_41 : decode cX7_meet 41 = .ok (.iload_n 1, 1) := by decide +kernel
theorem dX7_meet_42 : decode cX7_meet 42 = .ok (.iastore, 1) := by decide +kernel
theorem dX7_meet_43 : decode cX7_meet 43 = .ok (.aload_n 0, 1) := by decide +kernel
theorem dX7_meet_44 : decode cX7_meet 44 = .ok (.dup, 1) := by decide +kernel
theorem dX7_meet_45 : decode cX7_meet 45 = .ok (.getfield 256, 3) := by decide +kernel
theorem dX7_meet_48 : decode cX7_meet 48 = .ok (.iconst 1, 1) := by decide +kernel
theorem dX7_meet_49 : decode cX7_meet 49 = .ok (.iadd, 1) := by decide +kernel
theorem dX7_meet_50 : decode cX7_meet 50 = .ok (.putfield 256, 3) := by decide +kernel
theorem dX7_meet_53 : decode cX7_meet 53 = .ok (.return_, 1) := by decide +kernel
theorem dX7_clearReached_0 : decode cX7_clearReached 0 = .ok (.aload_n 0, 1) := by decide +kernel
theorem dX7_clearReached_1 : decode cX7_clearReached 1 = .ok (.iconst 0, 1) := by decide +kernel
theorem dX7_clearReached_2 : decode cX7_clearReached 2 = .ok (.putfield 256, 3) := by decide +kernel
theorem dX7_clearReached_5 : decode cX7_clearReached 5 = .ok (.iconst 0, 1) := by decide +kernel
theorem dX7_clearReached_6 : decode cX7_clearReached 6 = .ok (.istore_n 1, 1) := by decide +kernel
theorem dX7_clearReached_7 : decode cX7_clearReached 7 = .ok (.iload_n 1, 1) := by decide +kernel
theorem dX7_clearReached_8 : decode cX7_clearReached 8 = .ok (.sipush 128, 3) := by decide +kernel
theorem dX7_clearReached_11 : decode cX7_clearReached 11 = .ok (.if_icmp .ge 16, 3) := by decide +kernel
theorem dX7_clearReached_14 : decode cX7_clearReached 14 = .ok (.aload_n 0, 1) := by decide +kernel
theorem dX7_clearReached_15 : decode cX7_clearReached 15 = .ok (.getfield 17, 3) := by decide +kernel
theorem dX7_clearReached_18 : decode cX7_clearReached 18 = .ok (.iload_n 1, 1) := by decide +kernel
theorem dX7_clearReached_19 : decode cX7_clearReached 19 = .ok (.iconst 0, 1) := by decide +kernel
theorem dX7_clearReached_20 : decode cX7_clearReached 20 = .ok (.bastore, 1) := by decide +kernel
theorem dX7_clearReached_21 : decode cX7_clearReached 21 = .ok (.iinc 1 1, 3) := by decide +kernel
theorem dX7_clearReached_24 : decode cX7_clearReached 24 = .ok (.goto (-17), 3) := by decide +kernel
theorem dX7_clearReached_27 : decode cX7_clearReached 27 = .ok (.return_, 1) := by decide +kernel
theorem dX7_follow_0 : decode cX7_follow 0 = .ok (.iconst 0, 1) := by decide +kernel
theorem dX7_follow_1 : decode cX7_follow 1 = .ok (.istore_n 2, 1) := by decide +kernel
theorem dX7_follow_2 : decode cX7_follow 2 = .ok (.iload_n 2, 1) := by decide +kernel
theorem dX7_follow_3 : decode cX7_follow 3 = .ok (.aload_n 0, 1) := by decide +kernel
theorem dX7_follow_4 : decode cX7_follow 4 = .ok (.getfield 256, 3) := by decide +kernel
theorem dX7_follow_7 : decode cX7_follow 7 = .ok (.if_icmp .ge 64, 3) := by decide +kernel
theorem dX7_follow_10 : decode cX7_follow 10 = .ok (.aload_n 0, 1) := by decide +kernel
theorem dX7_follow_11 : decode cX7_follow 11 = .ok (.getfield 20, 3) := by decide +kernel
theorem dX7_follow_14 : decode cX7_follow 14 = .ok (.iload_n 2, 1) := by decide +kernel
theorem dX7_follow_15 : decode cX7_follow 15 = .ok (.iaload, 1) := by decide +kernel
theorem dX7_follow_16 : decode cX7_follow 16 = .ok (.istore_n 3, 1) := by decide +kernel
theorem dX7_follow_17 : decode cX7_follow 17 = .ok (.iconst 0, 1) := by decide +kernel
theorem dX7_follow_18 : decode cX7_follow 18 = .ok (.istore 4, 2) := by decide +kernel
theorem dX7_follow_20 : decode cX7_follow 20 = .ok (.iload 4, 2) := by decide +kernel
theorem dX7_follow_22 : decode cX7_follow 22 = .ok (.aload_n 0, 1) := by decide +kernel
theorem dX7_follow_23 : decode cX7_follow 23 = .ok (.getfield 7, 3) := by decide +kernel
theorem dX7_follow_26 : decode cX7_follow 26 = .ok (.sipush 128, 3) := by decide +kernel
theorem dX7_follow_29 : decode cX7_follow 29 = .ok (.iload_n 3, 1) := by decide +kernel
theorem dX7_follow_30 : decode cX7_follow 30 = .ok (.iadd, 1) := by decide +kernel
theorem dX7_follow_31 : decode cX7_follow 31 = .ok (.iaload, 1) := by decide +kernel
theorem dX7_follow_32 : decode cX7_follow 32 = .ok (.if_icmp .ge 33, 3) := by decide +kernel
theorem dX7_follow_35 : decode cX7_follow 35 = .ok (.aload_n 0, 1) := by decide +kernel
theorem dX7_follow_36 : decode cX7_follow 36 = .ok (.aload_n 0, 1) := by decide +kernel
theorem dX7_follow_37 : decode cX7_follow 37 = .ok (.getfield 7, 3) := by decide +kernel
theorem dX7_follow_40 : decode cX7_follow 40 = .ok (.iload_n 3, 1) := by decide +kernel
theorem dX7_follow_41 : decode cX7_follow 41 = .ok (.iload 4, 2) := by decide +kernel
theorem dX7_follow_43 : decode cX7_follow 43 = .ok (.invokestatic 161, 3) := by decide +kernel
theorem dX7_follow_46 : decode cX7_follow 46 = .ok (.iaload, 1) := by decide +kernel
theorem dX7_follow_47 : decode cX7_follow 47 = .ok (.iload_n 1, 1) := by decide +kernel
theorem dX7_follow_48 : decode cX7_follow 48 = .ok (.aload_n 0, 1) := by decide +kernel
theorem dX7_follow_49 : decode cX7_follow 49 = .ok (.getfield 23, 3) := by decide +kernel
theorem dX7_follow_52 : decode cX7_follow 52 = .ok (.iload_n 3, 1) := by decide +kernel
theorem dX7_follow_53 : decode cX7_follow 53 = .ok (.iaload, 1) := by decide +kernel
theorem dX7_follow_54 : decode cX7_follow 54 = .ok (.iconst 1, 1) := by decide +kernel
theorem dX7_follow_55 : decode cX7_follow 55 = .ok (.iadd, 1) := by decide +kernel
theorem dX7_follow_56 : decode cX7_follow 56 = .ok (.invokevirtual 259, 3) := by decide +kernel
theorem dX7_follow_59 : decode cX7_follow 59 = .ok (.iinc 4 1, 3) := by decide +kernel
theorem dX7_follow_62 : decode cX7_follow 62 = .ok (.goto (-42), 3) := by decide +kernel
theorem dX7_follow_65 : decode cX7_follow 65 = .ok (.iinc 2 1, 3) := by decide +kernel
theorem dX7_follow_68 : decode cX7_follow 68 = .ok (.goto (-66), 3) := by decide +kernel
theorem dX7_follow_71 : decode cX7_follow 71 = .ok (.return_, 1) := by decide +kernel
theorem dX7_reach_0 : decode cX7_reach 0 = .ok (.aload_n 0, 1) := by decide +kernel
theorem dX7_reach_1 : decode cX7_reach 1 = .ok (.invokevirtual 262, 3) := by decide +kernel
theorem dX7_reach_4 : decode cX7_reach 4 = .ok (.iconst 0, 1) := by decide +kernel
theorem dX7_reach_5 : decode cX7_reach 5 = .ok (.istore_n 2, 1) := by decide +kernel
theorem dX7_reach_6 : decode cX7_reach 6 = .ok (.iload_n 2, 1) := by decide +kernel
theorem dX7_reach_7 : decode cX7_reach 7 = .ok (.bipush 6, 2) := by decide +kernel
theorem dX7_reach_9 : decode cX7_reach 9 = .ok (.if_icmp .ge 25, 3) := by decide +kernel
theorem dX7_reach_12 : decode cX7_reach 12 = .ok (.aload_n 0, 1) := by decide +kernel
theorem dX7_reach_13 : decode cX7_reach 13 = .ok (.aload_n 0, 1) := by decide +kernel
theorem dX7_reach_14 : decode cX7_reach 14 = .ok (.getfield 7, 3) := by decide +kernel
theorem dX7_reach_17 : decode cX7_reach 17 = .ok (.sipush 715, 3) := by decide +kernel
theorem dX7_reach_20 : decode cX7_reach 20 = .ok (.iload_n 2, 1) := by decide +kernel
theorem dX7_reach_21 : decode cX7_reach 21 = .ok (.iadd, 1) := by decide +kernel
theorem dX7_reach_22 : decode cX7_reach 22 = .ok (.iaload, 1) := by decide +kernel
theorem dX7_reach_23 : decode cX7_reach 23 = .ok (.iload_n 1, 1) := by decide +kernel
theorem dX7_reach_24 : decode cX7_reach 24 = .ok (.iconst 0, 1) := by decide +kernel
theorem dX7_reach_25 : decode cX7_reach 25 = .ok (.invokevirtual 259, 3) := by decide +kernel
theorem dX7_reach_28 : decode cX7_reach 28 = .ok (.iinc 2 1, 3) := by decide +kernel
theorem dX7_reach_31 : decode cX7_reach 31 = .ok (.goto (-25), 3) := by decide +kernel
theorem dX7_reach_34 : decode cX7_reach 34 = .ok (.aload_n 0, 1) := by decide +kernel
theorem dX7_reach_35 : decode cX7_reach 35 = .ok (.iload_n 1, 1) := by decide +kernel
theorem dX7_reach_36 : decode cX7_reach 36 = .ok (.invokevirtual 265, 3) := by decide +kernel
theorem dX7_reach_39 : decode cX7_reach 39 = .ok (.aload_n 0, 1) := by decide +kernel
theorem dX7_reach_40 : decode cX7_reach 40 = .ok (.getfield 256, 3) := by decide +kernel
theorem dX7_reach_43 : decode cX7_reach 43 = .ok (.ireturn, 1) := by decide +kernel
theorem dX7_path_0 : decode cX7_path 0 = .ok (.iload_n 1, 1) := by decide +kernel
theorem dX7_path_1 : decode cX7_path 1 = .ok (.invokestatic 216, 3) := by decide +kernel
theorem dX7_path_4 : decode cX7_path 4 = .ok (.ifCond .eq 11, 3) := by decide +kernel
theorem dX7_path_7 : decode cX7_path 7 = .ok (.aload_n 0, 1) := by decide +kernel
theorem dX7_path_8 : decode cX7_path 8 = .ok (.iload_n 2, 1) := by decide +kernel
theorem dX7_path_9 : decode cX7_path 9 = .ok (.invokevirtual 109, 3) := by decide +kernel
theorem dX7_path_12 : decode cX7_path 12 = .ok (.ifCond .ne 5, 3) := by decide +kernel
theorem dX7_path_15 : decode cX7_path 15 = .ok (.iconst (-1), 1) := by decide +kernel
theorem dX7_path_16 : decode cX7_path 16 = .ok (.ireturn, 1) := by decide +kernel
theorem dX7_path_17 : decode cX7_path 17 = .ok (.aload_n 0, 1) := by decide +kernel
theorem dX7_path_18 : decode cX7_path 18 = .ok (.invokevirtual 262, 3) := by decide +kernel
theorem dX7_path_21 : decode cX7_path 21 = .ok (.aload_n 0, 1) := by decide +kernel
theorem dX7_path_22 : decode cX7_path 22 = .ok (.aload_n 0, 1) := by decide +kernel
theorem dX7_path_23 : decode cX7_path 23 = .ok (.getfield 7, 3) := by decide +kernel
theorem dX7_path_26 : decode cX7_path 26 = .ok (.sipush 715, 3) := by decide +kernel
theorem dX7_path_29 : decode cX7_path 29 = .ok (.iload_n 1, 1) := by decide +kernel
theorem dX7_path_30 : decode cX7_path 30 = .ok (.iadd, 1) := by decide +kernel
theorem dX7_path_31 : decode cX7_path 31 = .ok (.iaload, 1) := by decide +kernel
theorem dX7_path_32 : decode cX7_path 32 = .ok (.iconst (-1), 1) := by decide +kernel
theorem dX7_path_33 : decode cX7_path 33 = .ok (.iconst 0, 1) := by decide +kernel
theorem dX7_path_34 : decode cX7_path 34 = .ok (.invokevirtual 259, 3) := by decide +kernel
theorem dX7_path_37 : decode cX7_path 37 = .ok (.aload_n 0, 1) := by decide +kernel
theorem dX7_path_38 : decode cX7_path 38 = .ok (.iconst (-1), 1) := by decide +kernel
theorem dX7_path_39 : decode cX7_path 39 = .ok (.invokevirtual 265, 3) := by decide +kernel
theorem dX7_path_42 : decode cX7_path 42 = .ok (.aload_n 0, 1) := by decide +kernel
theorem dX7_path_43 : decode cX7_path 43 = .ok (.getfield 17, 3) := by decide +kernel
theorem dX7_path_46 : decode cX7_path 46 = .ok (.iload_n 2, 1) := by decide +kernel
theorem dX7_path_47 : decode cX7_path 47 = .ok (.baload, 1) := by decide +kernel
theorem dX7_path_48 : decode cX7_path 48 = .ok (.ifCond .eq 12, 3) := by decide +kernel
theorem dX7_path_51 : decode cX7_path 51 = .ok (.aload_n 0, 1) := by decide +kernel
theorem dX7_path_52 : decode cX7_path 52 = .ok (.getfield 23, 3) := by decide +kernel
theorem dX7_path_55 : decode cX7_path 55 = .ok (.iload_n 2, 1) := by decide +kernel
theorem dX7_path_56 : decode cX7_path 56 = .ok (.iaload, 1) := by decide +kernel
theorem dX7_path_57 : decode cX7_path 57 = .ok (.goto 4, 3) := by decide +kernel
theorem dX7_path_60 : decode cX7_path 60 = .ok (.iconst (-1), 1) := by decide +kernel
theorem dX7_path_61 : decode cX7_path 61 = .ok (.ireturn, 1) := by decide +kernel
theorem dX7_retained_0 : decode cX7_retained 0 = .ok (.aload_n 0, 1) := by decide +kernel
theorem dX7_retained_1 : decode cX7_retained 1 = .ok (.iload_n 1, 1) := by decide +kernel
theorem dX7_retained_2 : decode cX7_retained 2 = .ok (.invokevirtual 109, 3) := by decide +kernel
theorem dX7_retained_5 : decode cX7_retained 5 = .ok (.ifCond .ne 5, 3) := by decide +kernel
theorem dX7_retained_8 : decode cX7_retained 8 = .ok (.iconst (-1), 1) := by decide +kernel
theorem dX7_retained_9 : decode cX7_retained 9 = .ok (.ireturn, 1) := by decide +kernel
theorem dX7_retained_10 : decode cX7_retained 10 = .ok (.aload_n 0, 1) := by decide +kernel
theorem dX7_retained_11 : decode cX7_retained 11 = .ok (.iconst (-1), 1) := by decide +kernel
theorem dX7_retained_12 : decode cX7_retained 12 = .ok (.invokevirtual 268, 3) := by decide +kernel
theorem dX7_retained_15 : decode cX7_retained 15 = .ok (.istore_n 2, 1) := by decide +kernel
theorem dX7_retained_16 : decode cX7_retained 16 = .ok (.aload_n 0, 1) := by decide +kernel
theorem dX7_retained_17 : decode cX7_retained 17 = .ok (.getfield 17, 3) := by decide +kernel
theorem dX7_retained_20 : decode cX7_retained 20 = .ok (.iload_n 1, 1) := by decide +kernel
theorem dX7_retained_21 : decode cX7_retained 21 = .ok (.baload, 1) := by decide +kernel
theorem dX7_retained_22 : decode cX7_retained 22 = .ok (.ifCond .eq 13, 3) := by decide +kernel
theorem dX7_retained_25 : decode cX7_retained 25 = .ok (.iload_n 2, 1) := by decide +kernel
theorem dX7_retained_26 : decode cX7_retained 26 = .ok (.aload_n 0, 1) := by decide +kernel
theorem dX7_retained_27 : decode cX7_retained 27 = .ok (.iload_n 1, 1) := by decide +kernel
theorem dX7_retained_28 : decode cX7_retained 28 = .ok (.invokevirtual 268, 3) := by decide +kernel
theorem dX7_retained_31 : decode cX7_retained 31 = .ok (.isub, 1) := by decide +kernel
theorem dX7_retained_32 : decode cX7_retained 32 = .ok (.goto 4, 3) := by decide +kernel
theorem dX7_retained_35 : decode cX7_retained 35 = .ok (.iconst (-1), 1) := by decide +kernel
theorem dX7_retained_36 : decode cX7_retained 36 = .ok (.ireturn, 1) := by decide +kernel
theorem dX7_live_0 : decode cX7_live 0 = .ok (.aload_n 0, 1) := by decide +kernel
theorem dX7_live_1 : decode cX7_live 1 = .ok (.iconst (-1), 1) := by decide +kernel
theorem dX7_live_2 : decode cX7_live 2 = .ok (.invokevirtual 268, 3) := by decide +kernel
theorem dX7_live_5 : decode cX7_live 5 = .ok (.istore_n 2, 1) := by decide +kernel
theorem dX7_live_6 : decode cX7_live 6 = .ok (.iconst 0, 1) := by decide +kernel
theorem dX7_live_7 : decode cX7_live 7 = .ok (.istore_n 3, 1) := by decide +kernel
theorem dX7_live_8 : decode cX7_live 8 = .ok (.iconst 0, 1) := by decide +kernel
theorem dX7_live_9 : decode cX7_live 9 = .ok (.istore 4, 2) := by decide +kernel
theorem dX7_live_11 : decode cX7_live 11 = .ok (.iconst 0, 1) := by decide +kernel
theorem dX7_live_12 : decode cX7_live 12 = .ok (.istore 5, 2) := by decide +kernel
theorem dX7_live_14 : decode cX7_live 14 = .ok (.iload 5, 2) := by decide +kernel
theorem dX7_live_16 : decode cX7_live 16 = .ok (.sipush 128, 3) := by decide +kernel
theorem dX7_live_19 : decode cX7_live 19 = .ok (.if_icmp .ge 63, 3) := by decide +kernel
theorem dX7_live_22 : decode cX7_live 22 = .ok (.aload_n 0, 1) := by decide +kernel
theorem dX7_live_23 : decode cX7_live 23 = .ok (.iload 5, 2) := by decide +kernel
theorem dX7_live_25 : decode cX7_live 25 = .ok (.invokevirtual 109, 3) := by decide +kernel
theorem dX7_live_28 : decode cX7_live 28 = .ok (.ifCond .ne 6, 3) := by decide +kernel
theorem dX7_live_31 : decode cX7_live 31 = .ok (.goto 45, 3) := by decide +kernel
theorem dX7_live_34 : decode cX7_live 34 = .ok (.aload_n 0, 1) := by decide +kernel
theorem dX7_live_35 : decode cX7_live 35 = .ok (.getfield 17, 3) := by decide +kernel
theorem dX7_live_38 : decode cX7_live 38 = .ok (.iload 5, 2) := by decide +kernel
theorem dX7_live_40 : decode cX7_live 40 = .ok (.baload, 1) := by decide +kernel
theorem dX7_live_41 : decode cX7_live 41 = .ok (.ifCond .eq 15, 3) := by decide +kernel
theorem dX7_live_44 : decode cX7_live 44 = .ok (.iload_n 3, 1) := by decide +kernel
theorem dX7_live_45 : decode cX7_live 45 = .ok (.aload_n 0, 1) := by decide +kernel
theorem dX7_live_46 : decode cX7_live 46 = .ok (.iload 5, 2) := by decide +kernel
theorem dX7_live_48 : decode cX7_live 48 = .ok (.invokevirtual 98, 3) := by decide +kernel
theorem dX7_live_51 : decode cX7_live 51 = .ok (.iadd, 1) := by decide +kernel
theorem dX7_live_52 : decode cX7_live 52 = .ok (.istore_n 3, 1) := by decide +kernel
theorem dX7_live_53 : decode cX7_live 53 = .ok (.goto 23, 3) := by decide +kernel
theorem dX7_live_56 : decode cX7_live 56 = .ok (.aload_n 0, 1) := by decide +kernel
theorem dX7_live_57 : decode cX7_live 57 = .ok (.invokevirtual 181, 3) := by decide +kernel
theorem dX7_live_60 : decode cX7_live 60 = .ok (.ifCond .eq 16, 3) := by decide +kernel
theorem dX7_live_63 : decode cX7_live 63 = .ok (.aload_n 0, 1) := by decide +kernel
theorem dX7_live_64 : decode cX7_live 64 = .ok (.iload 5, 2) := by decide +kernel
theorem dX7_live_66 : decode cX7_live 66 = .ok (.invokevirtual 106, 3) := by decide +kernel
theorem dX7_live_69 : decode cX7_live 69 = .ok (.iconst 1, 1) := by decide +kernel
theorem dX7_live_70 : decode cX7_live 70 = .ok (.if_icmp .eq 6, 3) := by decide +kernel
theorem dX7_live_73 : decode cX7_live 73 = .ok (.iinc 4 1, 3) := by decide +kernel
theorem dX7_live_76 : decode cX7_live 76 = .ok (.iinc 5 1, 3) := by decide +kernel
theorem dX7_live_79 : decode cX7_live 79 = .ok (.goto (-65), 3) := by decide +kernel
theorem dX7_live_82 : decode cX7_live 82 = .ok (.iload_n 1, 1) := by decide +kernel
theorem dX7_live_83 : decode cX7_live 83 = .ok (.tableswitch 43 0 3 #[29, 31, 33, 40], 29) := by decide +kernel
theorem dX7_live_112 : decode cX7_live 112 = .ok (.iload_n 2, 1) := by decide +kernel
theorem dX7_live_113 : decode cX7_live 113 = .ok (.ireturn, 1) := by decide +kernel
theorem dX7_live_114 : decode cX7_live 114 = .ok (.iload_n 3, 1) := by decide +kernel
theorem dX7_live_115 : decode cX7_live 115 = .ok (.ireturn, 1) := by decide +kernel
theorem dX7_live_116 : decode cX7_live 116 = .ok (.aload_n 0, 1) := by decide +kernel
theorem dX7_live_117 : decode cX7_live 117 = .ok (.invokevirtual 164, 3) := by decide +kernel
theorem dX7_live_120 : decode cX7_live 120 = .ok (.iload_n 2, 1) := by decide +kernel
theorem dX7_live_121 : decode cX7_live 121 = .ok (.isub, 1) := by decide +kernel
theorem dX7_live_122 : decode cX7_live 122 = .ok (.ireturn, 1) := by decide +kernel
theorem dX7_live_123 : decode cX7_live 123 = .ok (.iload 4, 2) := by decide +kernel
theorem dX7_live_125 : decode cX7_live 125 = .ok (.ireturn, 1) := by decide +kernel
theorem dX7_live_126 : decode cX7_live 126 = .ok (.iconst (-1), 1) := by decide +kernel
theorem dX7_live_127 : decode cX7_live 127 = .ok (.ireturn, 1) := by decide +kernel
theorem dX7_root_0 : decode cX7_root 0 = .ok (.iload_n 1, 1) := by decide +kernel
theorem dX7_root_1 : decode cX7_root 1 = .ok (.invokestatic 216, 3) := by decide +kernel
theorem dX7_root_4 : decode cX7_root 4 = .ok (.ifCond .eq 16, 3) := by decide +kernel
theorem dX7_root_7 : decode cX7_root 7 = .ok (.aload_n 0, 1) := by decide +kernel
theorem dX7_root_8 : decode cX7_root 8 = .ok (.getfield 7, 3) := by decide +kernel
theorem dX7_root_11 : decode cX7_root 11 = .ok (.sipush 715, 3) := by decide +kernel
theorem dX7_root_14 : decode cX7_root 14 = .ok (.iload_n 1, 1) := by decide +kernel
theorem dX7_root_15 : decode cX7_root 15 = .ok (.iadd, 1) := by decide +kernel
theorem dX7_root_16 : decode cX7_root 16 = .ok (.iaload, 1) := by decide +kernel
theorem dX7_root_17 : decode cX7_root 17 = .ok (.goto 5, 3) := by decide +kernel
theorem dX7_root_20 : decode cX7_root 20 = .ok (.bipush (-2), 2) := by decide +kernel
theorem dX7_root_22 : decode cX7_root 22 = .ok (.ireturn, 1) := by decide +kernel
theorem dX7_weakly_0 : decode cX7_weakly 0 = .ok (.iload_n 1, 1) := by decide +kernel
theorem dX7_weakly_1 : decode cX7_weakly 1 = .ok (.invokestatic 247, 3) := by decide +kernel
theorem dX7_weakly_4 : decode cX7_weakly 4 = .ok (.ifCond .eq 16, 3) := by decide +kernel
theorem dX7_weakly_7 : decode cX7_weakly 7 = .ok (.aload_n 0, 1) := by decide +kernel
theorem dX7_weakly_8 : decode cX7_weakly 8 = .ok (.getfield 7, 3) := by decide +kernel
theorem dX7_weakly_11 : decode cX7_weakly 11 = .ok (.sipush 721, 3) := by decide +kernel
theorem dX7_weakly_14 : decode cX7_weakly 14 = .ok (.iload_n 1, 1) := by decide +kernel
theorem dX7_weakly_15 : decode cX7_weakly 15 = .ok (.iadd, 1) := by decide +kernel
theorem dX7_weakly_16 : decode cX7_weakly 16 = .ok (.iaload, 1) := by decide +kernel
theorem dX7_weakly_17 : decode cX7_weakly 17 = .ok (.goto 5, 3) := by decide +kernel
theorem dX7_weakly_20 : decode cX7_weakly 20 = .ok (.bipush (-2), 2) := by decide +kernel
theorem dX7_weakly_22 : decode cX7_weakly 22 = .ok (.ireturn, 1) := by decide +kernel
theorem dX7_told_0 : decode cX7_told 0 = .ok (.iload_n 1, 1) := by decide +kernel
theorem dX7_told_1 : decode cX7_told 1 = .ok (.iconst 0, 1) := by decide +kernel
theorem dX7_told_2 : decode cX7_told 2 = .ok (.aload_n 0, 1) := by decide +kernel
theorem dX7_told_3 : decode cX7_told 3 = .ok (.getfield 7, 3) := by decide +kernel
theorem dX7_told_6 : decode cX7_told 6 = .ok (.sipush 741, 3) := by decide +kernel
theorem dX7_told_9 : decode cX7_told 9 = .ok (.iaload, 1) := by decide +kernel
theorem dX7_told_10 : decode cX7_told 10 = .ok (.iconst 1, 1) := by decide +kernel
theorem dX7_told_11 : decode cX7_told 11 = .ok (.isub, 1) := by decide +kernel
theorem dX7_told_12 : decode cX7_told 12 = .ok (.invokestatic 94, 3) := by decide +kernel
theorem dX7_told_15 : decode cX7_told 15 = .ok (.ifCond .eq 29, 3) := by decide +kernel
theorem dX7_told_18 : decode cX7_told 18 = .ok (.iload_n 2, 1) := by decide +kernel
theorem dX7_told_19 : decode cX7_told 19 = .ok (.iconst 0, 1) := by decide +kernel
theorem dX7_told_20 : decode cX7_told 20 = .ok (.iconst 2, 1) := by decide +kernel
theorem dX7_told_21 : decode cX7_told 21 = .ok (.invokestatic 94, 3) := by decide +kernel
theorem dX7_told_24 : decode cX7_told 24 = .ok (.ifCond .eq 20, 3) := by decide +kernel
theorem dX7_told_27 : decode cX7_told 27 = .ok (.aload_n 0, 1) := by decide +kernel
theorem dX7_told_28 : decode cX7_told 28 = .ok (.getfield 7, 3) := by decide +kernel
theorem dX7_told_31 : decode cX7_told 31 = .ok (.sipush 742, 3) := by decide +kernel
theorem dX7_told_34 : decode cX7_told 34 = .ok (.iconst 3, 1) := by decide +kernel
theorem dX7_told_35 : decode cX7_told 35 = .ok (.iload_n 1, 1) := by decide +kernel
theorem dX7_told_36 : decode cX7_told 36 = .ok (.imul, 1) := by decide +kernel
theorem dX7_told_37 : decode cX7_told 37 = .ok (.iadd, 1) := by decide +kernel
theorem dX7_told_38 : decode cX7_told 38 = .ok (.iload_n 2, 1) := by decide +kernel
theorem dX7_told_39 : decode cX7_told 39 = .ok (.iadd, 1) := by decide +kernel
theorem dX7_told_40 : decode cX7_told 40 = .ok (.iaload, 1) := by decide +kernel
theorem dX7_told_41 : decode cX7_told 41 = .ok (.goto 4, 3) := by decide +kernel
theorem dX7_told_44 : decode cX7_told 44 = .ok (.iconst (-1), 1) := by decide +kernel
theorem dX7_told_45 : decode cX7_told 45 = .ok (.ireturn, 1) := by decide +kernel
theorem dX7_field_0 : decode cX7_field 0 = .ok (.aload_n 0, 1) := by decide +kernel
theorem dX7_field_1 : decode cX7_field 1 = .ok (.iload_n 1, 1) := by decide +kernel
theorem dX7_field_2 : decode cX7_field 2 = .ok (.iload_n 2, 1) := by decide +kernel
theorem dX7_field_3 : decode cX7_field 3 = .ok (.invokevirtual 225, 3) := by decide +kernel
theorem dX7_field_6 : decode cX7_field 6 = .ok (.ifCond .eq 16, 3) := by decide +kernel
theorem dX7_field_9 : decode cX7_field 9 = .ok (.aload_n 0, 1) := by decide +kernel
theorem dX7_field_10 : decode cX7_field 10 = .ok (.getfield 7, 3) := by decide +kernel
theorem dX7_field_13 : decode cX7_field 13 = .ok (.iload_n 1, 1) := by decide +kernel
theorem dX7_field_14 : decode cX7_field 14 = .ok (.iload_n 2, 1) := by decide +kernel
theorem dX7_field_15 : decode cX7_field 15 = .ok (.invokestatic 161, 3) := by decide +kernel
theorem dX7_field_18 : decode cX7_field 18 = .ok (.iaload, 1) := by decide +kernel
theorem dX7_field_19 : decode cX7_field 19 = .ok (.goto 5, 3) := by decide +kernel
theorem dX7_field_22 : decode cX7_field 22 = .ok (.bipush (-2), 2) := by decide +kernel
theorem dX7_field_24 : decode cX7_field 24 = .ok (.ireturn, 1) := by decide +kernel
theorem dX7_namedBy_0 : decode cX7_namedBy 0 = .ok (.iconst 0, 1) := by decide +kernel
theorem dX7_namedBy_1 : decode cX7_namedBy 1 = .ok (.istore_n 2, 1) := by decide +kernel
theorem dX7_namedBy_2 : decode cX7_namedBy 2 = .ok (.iconst 0, 1) := by decide +kernel
theorem dX7_namedBy_3 : decode cX7_namedBy 3 = .ok (.istore_n 3, 1) := by decide +kernel
theorem dX7_namedBy_4 : decode cX7_namedBy 4 = .ok (.iload_n 3, 1) := by decide +kernel
theorem dX7_namedBy_5 : decode cX7_namedBy 5 = .ok (.aload_n 0, 1) := by decide +kernel
theorem dX7_namedBy_6 : decode cX7_namedBy 6 = .ok (.getfield 7, 3) := by decide +kernel
theorem dX7_namedBy_9 : decode cX7_namedBy 9 = .ok (.sipush 128, 3) := by decide +kernel
theorem dX7_namedBy_12 : decode cX7_namedBy 12 = .ok (.iload_n 1, 1) := by decide +kernel
theorem dX7_namedBy_13 : decode cX7_namedBy 13 = .ok (.iadd, 1) := by decide +kernel
theorem dX7_namedBy_14 : decode cX7_namedBy 14 = .ok (.iaload, 1) := by decide +kernel
theorem dX7_namedBy_15 : decode cX7_namedBy 15 = .ok (.if_icmp .ge 30, 3) := by decide +kernel
theorem dX7_namedBy_18 : decode cX7_namedBy 18 = .ok (.iload_n 2, 1) := by decide +kernel
theorem dX7_namedBy_19 : decode cX7_namedBy 19 = .ok (.aload_n 0, 1) := by decide +kernel
theorem dX7_namedBy_20 : decode cX7_namedBy 20 = .ok (.getfield 7, 3) := by decide +kernel
theorem dX7_namedBy_23 : decode cX7_namedBy 23 = .ok (.iload_n 1, 1) := by decide +kernel
theorem dX7_namedBy_24 : decode cX7_namedBy 24 = .ok (.iload_n 3, 1) := by decide +kernel
theorem dX7_namedBy_25 : decode cX7_namedBy 25 = .ok (.invokestatic 161, 3) := by decide +kernel
theorem dX7_namedBy_28 : decode cX7_namedBy 28 = .ok (.iaload, 1) := by decide +kernel
theorem dX7_namedBy_29 : decode cX7_namedBy 29 = .ok (.ifCond .lt 7, 3) := by decide +kernel
theorem dX7_namedBy_32 : decode cX7_namedBy 32 = .ok (.iconst 1, 1) := by decide +kernel
theorem dX7_namedBy_33 : decode cX7_namedBy 33 = .ok (.goto 4, 3) := by decide +kernel
theorem dX7_namedBy_36 : decode cX7_namedBy 36 = .ok (.iconst 0, 1) := by decide +kernel
theorem dX7_namedBy_37 : decode cX7_namedBy 37 = .ok (.iadd, 1) := by decide +kernel
theorem dX7_namedBy_38 : decode cX7_namedBy 38 = .ok (.istore_n 2, 1) := by decide +kernel
theorem dX7_namedBy_39 : decode cX7_namedBy 39 = .ok (.iinc 3 1, 3) := by decide +kernel
theorem dX7_namedBy_42 : decode cX7_namedBy 42 = .ok (.goto (-38), 3) := by decide +kernel
theorem dX7_namedBy_45 : decode cX7_namedBy 45 = .ok (.iload_n 2, 1) := by decide +kernel
theorem dX7_namedBy_46 : decode cX7_namedBy 46 = .ok (.ireturn, 1) := by decide +kernel
theorem dX7_slot_0 : decode cX7_slot 0 = .ok (.aload_n 0, 1) := by decide +kernel
theorem dX7_slot_1 : decode cX7_slot 1 = .ok (.iload_n 1, 1) := by decide +kernel
theorem dX7_slot_2 : decode cX7_slot 2 = .ok (.invokevirtual 102, 3) := by decide +kernel
theorem dX7_slot_5 : decode cX7_slot 5 = .ok (.ifCond .ne 5, 3) := by decide +kernel
theorem dX7_slot_8 : decode cX7_slot 8 = .ok (.iconst (-1), 1) := by decide +kernel
theorem dX7_slot_9 : decode cX7_slot 9 = .ok (.ireturn, 1) := by decide +kernel
theorem dX7_slot_10 : decode cX7_slot 10 = .ok (.iload_n 2, 1) := by decide +kernel
theorem dX7_slot_11 : decode cX7_slot 11 = .ok (.tableswitch 114 0 5 #[37, 43, 49, 60, 66, 91], 37) := by decide +kernel
theorem dX7_slot_48 : decode cX7_slot 48 = .ok (.aload_n 0, 1) := by decide +kernel
theorem dX7_slot_49 : decode cX7_slot 49 = .ok (.iload_n 1, 1) := by decide +kernel
theorem dX7_slot_50 : decode cX7_slot 50 = .ok (.invokevirtual 106, 3) := by decide +kernel
theorem dX7_slot_53 : decode cX7_slot 53 = .ok (.ireturn, 1) := by decide +kernel
theorem dX7_slot_54 : decode cX7_slot 54 = .ok (.aload_n 0, 1) := by decide +kernel
theorem dX7_slot_55 : decode cX7_slot 55 = .ok (.iload_n 1, 1) := by decide +kernel
theorem dX7_slot_56 : decode cX7_slot 56 = .ok (.invokevirtual 98, 3) := by decide +kernel
theorem dX7_slot_59 : decode cX7_slot 59 = .ok (.ireturn, 1) := by decide +kernel
theorem dX7_slot_60 : decode cX7_slot 60 = .ok (.aload_n 0, 1) := by decide +kernel
theorem dX7_slot_61 : decode cX7_slot 61 = .ok (.getfield 7, 3) := by decide +kernel
theorem dX7_slot_64 : decode cX7_slot 64 = .ok (.sipush 128, 3) := by decide +kernel
theorem dX7_slot_67 : decode cX7_slot 67 = .ok (.iload_n 1, 1) := by decide +kernel
theorem dX7_slot_68 : decode cX7_slot 68 = .ok (.iadd, 1) := by decide +kernel
theorem dX7_slot_69 : decode cX7_slot 69 = .ok (.iaload, 1) := by decide +kernel
theorem dX7_slot_70 : decode cX7_slot 70 = .ok (.ireturn, 1) := by decide +kernel
theorem dX7_slot_71 : decode cX7_slot 71 = .ok (.aload_n 0, 1) := by decide +kernel
theorem dX7_slot_72 : decode cX7_slot 72 = .ok (.iload_n 1, 1) := by decide +kernel
theorem dX7_slot_73 : decode cX7_slot 73 = .ok (.invokevirtual 271, 3) := by decide +kernel
theorem dX7_slot_76 : decode cX7_slot 76 = .ok (.ireturn, 1) := by decide +kernel
theorem dX7_slot_77 : decode cX7_slot 77 = .ok (.iload_n 1, 1) := by decide +kernel
theorem dX7_slot_78 : decode cX7_slot 78 = .ok (.aload_n 0, 1) := by decide +kernel
theorem dX7_slot_79 : decode cX7_slot 79 = .ok (.getfield 7, 3) := by decide +kernel
theorem dX7_slot_82 : decode cX7_slot 82 = .ok (.sipush 727, 3) := by decide +kernel
theorem dX7_slot_85 : decode cX7_slot 85 = .ok (.iaload, 1) := by decide +kernel
theorem dX7_slot_86 : decode cX7_slot 86 = .ok (.if_icmp .ne 14, 3) := by decide +kernel
theorem dX7_slot_89 : decode cX7_slot 89 = .ok (.aload_n 0, 1) := by decide +kernel
theorem dX7_slot_90 : decode cX7_slot 90 = .ok (.getfield 7, 3) := by decide +kernel
theorem dX7_slot_93 : decode cX7_slot 93 = .ok (.sipush 728, 3) := by decide +kernel
theorem dX7_slot_96 : decode cX7_slot 96 = .ok (.iaload, 1) := by decide +kernel
theorem dX7_slot_97 : decode cX7_slot 97 = .ok (.goto 4, 3) := by decide +kernel
theorem dX7_slot_100 : decode cX7_slot 100 = .ok (.iconst 0, 1) := by decide +kernel
theorem dX7_slot_101 : decode cX7_slot 101 = .ok (.ireturn, 1) := by decide +kernel
theorem dX7_slot_102 : decode cX7_slot 102 = .ok (.aload_n 0, 1) := by decide +kernel
theorem dX7_slot_103 : decode cX7_slot 103 = .ok (.iconst (-1), 1) := by decide +kernel
theorem dX7_slot_104 : decode cX7_slot 104 = .ok (.invokevirtual 268, 3) := by decide +kernel
theorem dX7_slot_107 : decode cX7_slot 107 = .ok (.ifCond .le 16, 3) := by decide +kernel
theorem dX7_slot_110 : decode cX7_slot 110 = .ok (.aload_n 0, 1) := by decide +kernel
theorem dX7_slot_111 : decode cX7_slot 111 = .ok (.getfield 17, 3) := by decide +kernel
theorem dX7_slot_114 : decode cX7_slot 114 = .ok (.iload_n 1, 1) := by decide +kernel
theorem dX7_slot_115 : decode cX7_slot 115 = .ok (.baload, 1) := by decide +kernel
theorem dX7_slot_116 : decode cX7_slot 116 = .ok (.ifCond .eq 7, 3) := by decide +kernel
theorem dX7_slot_119 : decode cX7_slot 119 = .ok (.iconst 1, 1) := by decide +kernel
theorem dX7_slot_120 : decode cX7_slot 120 = .ok (.goto 4, 3) := by decide +kernel
theorem dX7_slot_123 : decode cX7_slot 123 = .ok (.iconst 0, 1) := by decide +kernel
theorem dX7_slot_124 : decode cX7_slot 124 = .ok (.ireturn, 1) := by decide +kernel
theorem dX7_slot_125 : decode cX7_slot 125 = .ok (.iconst (-1), 1) := by decide +kernel
theorem dX7_slot_126 : decode cX7_slot 126 = .ok (.ireturn, 1) := by decide +kernel
theorem dX7_isSize_0 : decode cX7_isSize 0 = .ok (.iload_n 0, 1) := by decide +kernel
theorem dX7_isSize_1 : decode cX7_isSize 1 = .ok (.iconst 2, 1) := by decide +kernel
theorem dX7_isSize_2 : decode cX7_isSize 2 = .ok (.if_icmp .eq 14, 3) := by decide +kernel
theorem dX7_isSize_5 : decode cX7_isSize 5 = .ok (.iload_n 0, 1) := by decide +kernel
theorem dX7_isSize_6 : decode cX7_isSize 6 = .ok (.iconst 4, 1) := by decide +kernel
theorem dX7_isSize_7 : decode cX7_isSize 7 = .ok (.if_icmp .eq 9, 3) := by decide +kernel
theorem dX7_isSize_10 : decode cX7_isSize 10 = .ok (.iload_n 0, 1) := by decide +kernel
theorem dX7_isSize_11 : decode cX7_isSize 11 = .ok (.bipush 8, 2) := by decide +kernel
theorem dX7_isSize_13 : decode cX7_isSize 13 = .ok (.if_icmp .ne 7, 3) := by decide +kernel
theorem dX7_isSize_16 : decode cX7_isSize 16 = .ok (.iconst 1, 1) := by decide +kernel
theorem dX7_isSize_17 : decode cX7_isSize 17 = .ok (.goto 4, 3) := by decide +kernel
theorem dX7_isSize_20 : decode cX7_isSize 20 = .ok (.iconst 0, 1) := by decide +kernel
theorem dX7_isSize_21 : decode cX7_isSize 21 = .ok (.ireturn, 1) := by decide +kernel
theorem dX7_ring_0 : decode cX7_ring 0 = .ok (.iload_n 1, 1) := by decide +kernel
theorem dX7_ring_1 : decode cX7_ring 1 = .ok (.invokestatic 274, 3) := by decide +kernel
theorem dX7_ring_4 : decode cX7_ring 4 = .ok (.ifCond .eq 37, 3) := by decide +kernel
theorem dX7_ring_7 : decode cX7_ring 7 = .ok (.iload_n 2, 1) := by decide +kernel
theorem dX7_ring_8 : decode cX7_ring 8 = .ok (.iconst 0, 1) := by decide +kernel
theorem dX7_ring_9 : decode cX7_ring 9 = .ok (.aload_n 0, 1) := by decide +kernel
theorem dX7_ring_10 : decode cX7_ring 10 = .ok (.iload_n 1, 1) := by decide +kernel
theorem dX7_ring_11 : decode cX7_ring 11 = .ok (.invokestatic 125, 3) := by decide +kernel
theorem dX7_ring_14 : decode cX7_ring 14 = .ok (.invokevirtual 116, 3) := by decide +kernel
theorem dX7_ring_17 : decode cX7_ring 17 = .ok (.iconst 1, 1) := by decide +kernel
theorem dX7_ring_18 : decode cX7_ring 18 = .ok (.isub, 1) := by decide +kernel
theorem dX7_ring_19 : decode cX7_ring 19 = .ok (.invokestatic 94, 3) := by decide +kernel
theorem dX7_ring_22 : decode cX7_ring 22 = .ok (.ifCond .eq 19, 3) := by decide +kernel
theorem dX7_ring_25 : decode cX7_ring 25 = .ok (.aload_n 0, 1) := by decide +kernel
theorem dX7_ring_26 : decode cX7_ring 26 = .ok (.getfield 7, 3) := by decide +kernel
theorem dX7_ring_29 : decode cX7_ring 29 = .ok (.iload_n 1, 1) := by decide +kernel
theorem dX7_ring_30 : decode cX7_ring 30 = .ok (.invokestatic 125, 3) := by decide +kernel
theorem dX7_ring_33 : decode cX7_ring 33 = .ok (.iload_n 2, 1) := by decide +kernel
theorem dX7_ring_34 : decode cX7_ring 34 = .ok (.invokestatic 112, 3) := by decide +kernel
theorem dX7_ring_37 : decode cX7_ring 37 = .ok (.iaload, 1) := by decide +kernel
theorem dX7_ring_38 : decode cX7_ring 38 = .ok (.goto 4, 3) := by decide +kernel
theorem dX7_ring_41 : decode cX7_ring 41 = .ok (.iconst (-1), 1) := by decide +kernel
theorem dX7_ring_42 : decode cX7_ring 42 = .ok (.ireturn, 1) := by decide +kernel
theorem dX7_many_0 : decode cX7_many 0 = .ok (.iload_n 1, 1) := by decide +kernel
theorem dX7_many_1 : decode cX7_many 1 = .ok (.invokestatic 274, 3) := by decide +kernel
theorem dX7_many_4 : decode cX7_many 4 = .ok (.ifCond .eq 24, 3) := by decide +kernel
theorem dX7_many_7 : decode cX7_many 7 = .ok (.iload_n 2, 1) := by decide +kernel
theorem dX7_many_8 : decode cX7_many 8 = .ok (.iconst 0, 1) := by decide +kernel
theorem dX7_many_9 : decode cX7_many 9 = .ok (.iconst 3, 1) := by decide +kernel
theorem dX7_many_10 : decode cX7_many 10 = .ok (.invokestatic 94, 3) := by decide +kernel
theorem dX7_many_13 : decode cX7_many 13 = .ok (.ifCond .eq 15, 3) := by decide +kernel
theorem dX7_many_16 : decode cX7_many 16 = .ok (.aload_n 0, 1) := by decide +kernel
theorem dX7_many_17 : decode cX7_many 17 = .ok (.iload_n 1, 1) := by decide +kernel
theorem dX7_many_18 : decode cX7_many 18 = .ok (.invokestatic 125, 3) := by decide +kernel
theorem dX7_many_21 : decode cX7_many 21 = .ok (.iload_n 2, 1) := by decide +kernel
theorem dX7_many_22 : decode cX7_many 22 = .ok (.invokevirtual 119, 3) := by decide +kernel
theorem dX7_many_25 : decode cX7_many 25 = .ok (.goto 4, 3) := by decide +kernel
theorem dX7_many_28 : decode cX7_many 28 = .ok (.iconst (-1), 1) := by decide +kernel
theorem dX7_many_29 : decode cX7_many 29 = .ok (.ireturn, 1) := by decide +kernel
theorem dX7_page_0 : decode cX7_page 0 = .ok (.iload_n 1, 1) := by decide +kernel
theorem dX7_page_1 : decode cX7_page 1 = .ok (.iconst 0, 1) := by decide +kernel
theorem dX7_page_2 : decode cX7_page 2 = .ok (.aload_n 0, 1) := by decide +kernel
theorem dX7_page_3 : decode cX7_page 3 = .ok (.getfield 7, 3) := by decide +kernel
theorem dX7_page_6 : decode cX7_page 6 = .ok (.sipush 725, 3) := by decide +kernel
theorem dX7_page_9 : decode cX7_page 9 = .ok (.iaload, 1) := by decide +kernel
theorem dX7_page_10 : decode cX7_page 10 = .ok (.iconst 1, 1) := by decide +kernel
theorem dX7_page_11 : decode cX7_page 11 = .ok (.isub, 1) := by decide +kernel
theorem dX7_page_12 : decode cX7_page 12 = .ok (.invokestatic 94, 3) := by decide +kernel
theorem dX7_page_15 : decode cX7_page 15 = .ok (.ifCond .eq 12, 3) := by decide +kernel
theorem dX7_page_18 : decode cX7_page 18 = .ok (.iload_n 2, 1) := by decide +kernel
theorem dX7_page_19 : decode cX7_page 19 = .ok (.iconst 0, 1) := by decide +kernel
theorem dX7_page_20 : decode cX7_page 20 = .ok (.iconst 2, 1) := by decide +kernel
theorem dX7_page_21 : decode cX7_page 21 = .ok (.invokestatic 94, 3) := by decide +kernel
theorem dX7_page_24 : decode cX7_page 24 = .ok (.ifCond .ne 5, 3) := by decide +kernel
theorem dX7_page_27 : decode cX7_page 27 = .ok (.iconst (-1), 1) := by decide +kernel
theorem dX7_page_28 : decode cX7_page 28 = .ok (.ireturn, 1) := by decide +kernel
theorem dX7_page_29 : decode cX7_page 29 = .ok (.aload_n 0, 1) := by decide +kernel
theorem dX7_page_30 : decode cX7_page 30 = .ok (.getfield 7, 3) := by decide +kernel
theorem dX7_page_33 : decode cX7_page 33 = .ok (.sipush 707, 3) := by decide +kernel
theorem dX7_page_36 : decode cX7_page 36 = .ok (.iload_n 1, 1) := by decide +kernel
theorem dX7_page_37 : decode cX7_page 37 = .ok (.iadd, 1) := by decide +kernel
theorem dX7_page_38 : decode cX7_page 38 = .ok (.iaload, 1) := by decide +kernel
theorem dX7_page_39 : decode cX7_page 39 = .ok (.istore_n 3, 1) := by decide +kernel
theorem dX7_page_40 : decode cX7_page 40 = .ok (.iload_n 2, 1) := by decide +kernel
theorem dX7_page_41 : decode cX7_page 41 = .ok (.ifCond .eq 7, 3) := by decide +kernel
theorem dX7_page_44 : decode cX7_page 44 = .ok (.iload_n 3, 1) := by decide +kernel
theorem dX7_page_45 : decode cX7_page 45 = .ok (.ifCond .ne 5, 3) := by decide +kernel
theorem dX7_page_48 : decode cX7_page 48 = .ok (.iload_n 3, 1) := by decide +kernel
theorem dX7_page_49 : decode cX7_page 49 = .ok (.ireturn, 1) := by decide +kernel
theorem dX7_page_50 : decode cX7_page 50 = .ok (.iconst 0, 1) := by decide +kernel
theorem dX7_page_51 : decode cX7_page 51 = .ok (.istore 4, 2) := by decide +kernel
theorem dX7_page_53 : decode cX7_page 53 = .ok (.bipush 16, 2) := by decide +kernel
theorem dX7_page_55 : decode cX7_page 55 = .ok (.iload_n 1, 1) := by decide +kernel
theorem dX7_page_56 : decode cX7_page 56 = .ok (.imul, 1) := by decide +kernel
theorem dX7_page_57 : decode cX7_page 57 = .ok (.istore 5, 2) := by decide +kernel
theorem dX7_page_59 : decode cX7_page 59 = .ok (.iload 5, 2) := by decide +kernel
theorem dX7_page_61 : decode cX7_page 61 = .ok (.bipush 16, 2) := by decide +kernel
theorem dX7_page_63 : decode cX7_page 63 = .ok (.iload_n 1, 1) := by decide +kernel
theorem dX7_page_64 : decode cX7_page 64 = .ok (.iconst 1, 1) := by decide +kernel
theorem dX7_page_65 : decode cX7_page 65 = .ok (.iadd, 1) := by decide +kernel
theorem dX7_page_66 : decode cX7_page 66 = .ok (.imul, 1) := by decide +kernel
theorem dX7_page_67 : decode cX7_page 67 = .ok (.if_icmp .ge 31, 3) := by decide +kernel
theorem dX7_page_70 : decode cX7_page 70 = .ok (.iload 4, 2) := by decide +kernel
theorem dX7_page_72 : decode cX7_page 72 = .ok (.aload_n 0, 1) := by decide +kernel
theorem dX7_page_73 : decode cX7_page 73 = .ok (.iload 5, 2) := by decide +kernel
theorem dX7_page_75 : decode cX7_page 75 = .ok (.invokevirtual 106, 3) := by decide +kernel
theorem dX7_page_78 : decode cX7_page 78 = .ok (.ifCond .ne 7, 3) := by decide +kernel
theorem dX7_page_81 : decode cX7_page 81 = .ok (.iconst 1, 1) := by decide +kernel
theorem dX7_page_82 : decode cX7_page 82 = .ok (.goto 4, 3) := by decide +kernel
theorem dX7_page_85 : decode cX7_page 85 = .ok (.iconst 0, 1) := by decide +kernel
theorem dX7_page_86 : decode cX7_page 86 = .ok (.iadd, 1) := by decide +kernel
theorem dX7_page_87 : decode cX7_page 87 = .ok (.istore 4, 2) := by decide +kernel
theorem dX7_page_89 : decode cX7_page 89 = .ok (.iload 5, 2) := by decide +kernel
theorem dX7_page_91 : decode cX7_page 91 = .ok (.iload_n 3, 1) := by decide +kernel
theorem dX7_page_92 : decode cX7_page 92 = .ok (.iadd, 1) := by decide +kernel
theorem dX7_page_93 : decode cX7_page 93 = .ok (.istore 5, 2) := by decide +kernel
theorem dX7_page_95 : decode cX7_page 95 = .ok (.goto (-36), 3) := by decide +kernel
theorem dX7_page_98 : decode cX7_page 98 = .ok (.iload_n 2, 1) := by decide +kernel
theorem dX7_page_99 : decode cX7_page 99 = .ok (.iconst 1, 1) := by decide +kernel
theorem dX7_page_100 : decode cX7_page 100 = .ok (.if_icmp .ne 8, 3) := by decide +kernel
theorem dX7_page_103 : decode cX7_page 103 = .ok (.iload 4, 2) := by decide +kernel
theorem dX7_page_105 : decode cX7_page 105 = .ok (.goto 10, 3) := by decide +kernel
theorem dX7_page_108 : decode cX7_page 108 = .ok (.bipush 16, 2) := by decide +kernel
theorem dX7_page_110 : decode cX7_page 110 = .ok (.iload_n 3, 1) := by decide +kernel
theorem dX7_page_111 : decode cX7_page 111 = .ok (.idiv, 1) := by decide +kernel
theorem dX7_page_112 : decode cX7_page 112 = .ok (.iload 4, 2) := by decide +kernel
theorem dX7_page_114 : decode cX7_page 114 = .ok (.isub, 1) := by decide +kernel
theorem dX7_page_115 : decode cX7_page 115 = .ok (.ireturn, 1) := by decide +kernel
theorem dX7_grey__0 : decode cX7_grey_ 0 = .ok (.aload_n 0, 1) := by decide +kernel
theorem dX7_grey__1 : decode cX7_grey_ 1 = .ok (.invokevirtual 175, 3) := by decide +kernel
theorem dX7_grey__4 : decode cX7_grey_ 4 = .ok (.aload_n 0, 1) := by decide +kernel
theorem dX7_grey__5 : decode cX7_grey_ 5 = .ok (.getfield 7, 3) := by decide +kernel
theorem dX7_grey__8 : decode cX7_grey_ 8 = .ok (.sipush 727, 3) := by decide +kernel
theorem dX7_grey__11 : decode cX7_grey_ 11 = .ok (.iaload, 1) := by decide +kernel
theorem dX7_grey__12 : decode cX7_grey_ 12 = .ok (.ifCond .ge 10, 3) := by decide +kernel
theorem dX7_grey__15 : decode cX7_grey_ 15 = .ok (.aload_n 0, 1) := by decide +kernel
theorem dX7_grey__16 : decode cX7_grey_ 16 = .ok (.invokevirtual 178, 3) := by decide +kernel
theorem dX7_grey__19 : decode cX7_grey_ 19 = .ok (.goto 11, 3) := by decide +kernel
theorem dX7_grey__22 : decode cX7_grey_ 22 = .ok (.aload_n 0, 1) := by decide +kernel
theorem dX7_grey__23 : decode cX7_grey_ 23 = .ok (.getfield 7, 3) := by decide +kernel
theorem dX7_grey__26 : decode cX7_grey_ 26 = .ok (.sipush 727, 3) := by decide +kernel
theorem dX7_grey__29 : decode cX7_grey_ 29 = .ok (.iaload, 1) := by decide +kernel
theorem dX7_grey__30 : decode cX7_grey_ 30 = .ok (.istore_n 2, 1) := by decide +kernel
theorem dX7_grey__31 : decode cX7_grey_ 31 = .ok (.iconst 0, 1) := by decide +kernel
theorem dX7_grey__32 : decode cX7_grey_ 32 = .ok (.istore_n 3, 1) := by decide +kernel
theorem dX7_grey__33 : decode cX7_grey_ 33 = .ok (.iload_n 3, 1) := by decide +kernel
theorem dX7_grey__34 : decode cX7_grey_ 34 = .ok (.iload_n 1, 1) := by decide +kernel
theorem dX7_grey__35 : decode cX7_grey_ 35 = .ok (.if_icmp .ge 25, 3) := by decide +kernel
theorem dX7_grey__38 : decode cX7_grey_ 38 = .ok (.iload_n 2, 1) := by decide +kernel
theorem dX7_grey__39 : decode cX7_grey_ 39 = .ok (.ifCond .lt 21, 3) := by decide +kernel
theorem dX7_grey__42 : decode cX7_grey_ 42 = .ok (.aload_n 0, 1) := by decide +kernel
theorem dX7_grey__43 : decode cX7_grey_ 43 = .ok (.getfield 13, 3) := by decide +kernel
theorem dX7_grey__46 : decode cX7_grey_ 46 = .ok (.iload_n 2, 1) := by decide +kernel
theorem dX7_grey__47 : decode cX7_grey_ 47 = .ok (.iconst 1, 1) := by decide +kernel
theorem dX7_grey__48 : decode cX7_grey_ 48 = .ok (.bastore, 1) := by decide +kernel
theorem dX7_grey__49 : decode cX7_grey_ 49 = .ok (.aload_n 0, 1) := by decide +kernel
theorem dX7_grey__50 : decode cX7_grey_ 50 = .ok (.invokevirtual 178, 3) := by decide +kernel
theorem dX7_grey__53 : decode cX7_grey_ 53 = .ok (.istore_n 2, 1) := by decide +kernel
theorem dX7_grey__54 : decode cX7_grey_ 54 = .ok (.iinc 3 1, 3) := by decide +kernel
theorem dX7_grey__57 : decode cX7_grey_ 57 = .ok (.goto (-24), 3) := by decide +kernel
theorem dX7_grey__60 : decode cX7_grey_ 60 = .ok (.iload_n 1, 1) := by decide +kernel
theorem dX7_grey__61 : decode cX7_grey_ 61 = .ok (.ifCond .ge 7, 3) := by decide +kernel
theorem dX7_grey__64 : decode cX7_grey_ 64 = .ok (.iconst (-1), 1) := by decide +kernel
theorem dX7_grey__65 : decode cX7_grey_ 65 = .ok (.goto 4, 3) := by decide +kernel
theorem dX7_grey__68 : decode cX7_grey_ 68 = .ok (.iload_n 2, 1) := by decide +kernel
theorem dX7_grey__69 : decode cX7_grey_ 69 = .ok (.ireturn, 1) := by decide +kernel
theorem dX7_law_0 : decode cX7_law 0 = .ok (.iload_n 1, 1) := by decide +kernel
theorem dX7_law_1 : decode cX7_law 1 = .ok (.iconst 0, 1) := by decide +kernel
theorem dX7_law_2 : decode cX7_law 2 = .ok (.iconst 1, 1) := by decide +kernel
theorem dX7_law_3 : decode cX7_law 3 = .ok (.invokestatic 94, 3) := by decide +kernel
theorem dX7_law_6 : decode cX7_law 6 = .ok (.ifCond .ne 5, 3) := by decide +kernel
theorem dX7_law_9 : decode cX7_law 9 = .ok (.iconst (-1), 1) := by decide +kernel
theorem dX7_law_10 : decode cX7_law 10 = .ok (.ireturn, 1) := by decide +kernel
theorem dX7_law_11 : decode cX7_law 11 = .ok (.iconst 0, 1) := by decide +kernel
theorem dX7_law_12 : decode cX7_law 12 = .ok (.istore_n 2, 1) := by decide +kernel
theorem dX7_law_13 : decode cX7_law 13 = .ok (.iconst 0, 1) := by decide +kernel
theorem dX7_law_14 : decode cX7_law 14 = .ok (.istore_n 3, 1) := by decide +kernel
theorem dX7_law_15 : decode cX7_law 15 = .ok (.iconst 0, 1) := by decide +kernel
theorem dX7_law_16 : decode cX7_law 16 = .ok (.istore 4, 2) := by decide +kernel
theorem dX7_law_18 : decode cX7_law 18 = .ok (.iload 4, 2) := by decide +kernel
theorem dX7_law_20 : decode cX7_law 20 = .ok (.bipush 6, 2) := by decide +kernel
theorem dX7_law_22 : decode cX7_law 22 = .ok (.if_icmp .ge 35, 3) := by decide +kernel
theorem dX7_law_25 : decode cX7_law 25 = .ok (.iload_n 3, 1) := by decide +kernel
theorem dX7_law_26 : decode cX7_law 26 = .ok (.aload_n 0, 1) := by decide +kernel
theorem dX7_law_27 : decode cX7_law 27 = .ok (.aload_n 0, 1) := by decide +kernel
theorem dX7_law_28 : decode cX7_law 28 = .ok (.getfield 7, 3) := by decide +kernel
